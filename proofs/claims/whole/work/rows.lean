section
-- ===== PART A: goes FIRST, ahead of the names: the tables' words, and 'selects' of the private methods out of them =====
/-- a private method of a class that the tables say can be made, by its rows of tables_1 -/
def lw_okq (q : MethodName × Nat) : Prop := (q.1.cls ≠ "java/lang/invoke/MethodHandle" ∧ q.1.cls ≠ "java/lang/invoke/VarHandle") ∧ Cond.instantiable q.1.cls q.2 ∈ tables_1 ∧ Cond.privateMethod q.1 ∈ tables_1 ∧ Cond.instanceMethod q.1 ∈ tables_1
theorem lw_p0 : lw_okq (⟨"ResetRooms$BoxText", "matchesDigits", "(II)Z"⟩, 7) := ⟨⟨by decide +kernel, by decide +kernel⟩, List.mem_of_getElem? (i := 25) (by decide +kernel), List.mem_of_getElem? (i := 314) (by decide +kernel), List.mem_of_getElem? (i := 315) (by decide +kernel)⟩
theorem lw_p1 : lw_okq (⟨"ResetRooms$BoxText", "digitHere", "()Z"⟩, 7) := ⟨⟨by decide +kernel, by decide +kernel⟩, List.mem_of_getElem? (i := 25) (by decide +kernel), List.mem_of_getElem? (i := 318) (by decide +kernel), List.mem_of_getElem? (i := 319) (by decide +kernel)⟩
theorem lw_p2 : lw_okq (⟨"ResetRooms$BoxText", "signHere", "()I"⟩, 7) := ⟨⟨by decide +kernel, by decide +kernel⟩, List.mem_of_getElem? (i := 25) (by decide +kernel), List.mem_of_getElem? (i := 322) (by decide +kernel), List.mem_of_getElem? (i := 323) (by decide +kernel)⟩
theorem lw_p3 : lw_okq (⟨"ResetRooms$BoxText", "matchesWord", "(Ljava/lang/String;)Z"⟩, 7) := ⟨⟨by decide +kernel, by decide +kernel⟩, List.mem_of_getElem? (i := 25) (by decide +kernel), List.mem_of_getElem? (i := 330) (by decide +kernel), List.mem_of_getElem? (i := 331) (by decide +kernel)⟩
theorem lw_p4 : lw_okq (⟨"ResetRooms$BoxText", "matchesLock", "()Z"⟩, 7) := ⟨⟨by decide +kernel, by decide +kernel⟩, List.mem_of_getElem? (i := 25) (by decide +kernel), List.mem_of_getElem? (i := 382) (by decide +kernel), List.mem_of_getElem? (i := 383) (by decide +kernel)⟩
theorem lw_p5 : lw_okq (⟨"ResetRooms$Log", "appendNumber", "(I)V"⟩, 2) := ⟨⟨by decide +kernel, by decide +kernel⟩, List.mem_of_getElem? (i := 223) (by decide +kernel), List.mem_of_getElem? (i := 551) (by decide +kernel), List.mem_of_getElem? (i := 552) (by decide +kernel)⟩
theorem lw_p6 : lw_okq (⟨"ResetRooms$Log", "appendSign", "(I)V"⟩, 2) := ⟨⟨by decide +kernel, by decide +kernel⟩, List.mem_of_getElem? (i := 223) (by decide +kernel), List.mem_of_getElem? (i := 556) (by decide +kernel), List.mem_of_getElem? (i := 557) (by decide +kernel)⟩
theorem lw_p7 : lw_okq (⟨"ResetRooms$Log", "appendArgument", "(I)V"⟩, 2) := ⟨⟨by decide +kernel, by decide +kernel⟩, List.mem_of_getElem? (i := 223) (by decide +kernel), List.mem_of_getElem? (i := 563) (by decide +kernel), List.mem_of_getElem? (i := 564) (by decide +kernel)⟩
theorem lw_p8 : lw_okq (⟨"ResetRooms$Room", "stepForCode", "(I)I"⟩, 16) := ⟨⟨by decide +kernel, by decide +kernel⟩, List.mem_of_getElem? (i := 65) (by decide +kernel), List.mem_of_getElem? (i := 660) (by decide +kernel), List.mem_of_getElem? (i := 661) (by decide +kernel)⟩
theorem lw_p9 : lw_okq (⟨"ResetRooms$Room", "lowestUnknownPlace", "(I)I"⟩, 16) := ⟨⟨by decide +kernel, by decide +kernel⟩, List.mem_of_getElem? (i := 65) (by decide +kernel), List.mem_of_getElem? (i := 664) (by decide +kernel), List.mem_of_getElem? (i := 665) (by decide +kernel)⟩
theorem lw_p10 : lw_okq (⟨"ResetRooms$Room", "stepForThing", "(I)I"⟩, 16) := ⟨⟨by decide +kernel, by decide +kernel⟩, List.mem_of_getElem? (i := 65) (by decide +kernel), List.mem_of_getElem? (i := 668) (by decide +kernel), List.mem_of_getElem? (i := 669) (by decide +kernel)⟩
theorem lw_p11 : lw_okq (⟨"ResetRooms$Room", "stepToHold", "(I)I"⟩, 16) := ⟨⟨by decide +kernel, by decide +kernel⟩, List.mem_of_getElem? (i := 65) (by decide +kernel), List.mem_of_getElem? (i := 672) (by decide +kernel), List.mem_of_getElem? (i := 673) (by decide +kernel)⟩
theorem lw_p12 : lw_okq (⟨"ResetRooms$Room", "lowestHeld", "()I"⟩, 16) := ⟨⟨by decide +kernel, by decide +kernel⟩, List.mem_of_getElem? (i := 65) (by decide +kernel), List.mem_of_getElem? (i := 677) (by decide +kernel), List.mem_of_getElem? (i := 678) (by decide +kernel)⟩
theorem lw_p13 : lw_okq (⟨"ResetRooms$State", "cluesOfReset", "()I"⟩, 9) := ⟨⟨by decide +kernel, by decide +kernel⟩, List.mem_of_getElem? (i := 59) (by decide +kernel), List.mem_of_getElem? (i := 730) (by decide +kernel), List.mem_of_getElem? (i := 731) (by decide +kernel)⟩
theorem lw_p14 : lw_okq (⟨"ResetRooms", "slotState", "(I)LResetRooms$State;"⟩, 6) := ⟨⟨by decide +kernel, by decide +kernel⟩, List.mem_of_getElem? (i := 17) (by decide +kernel), List.mem_of_getElem? (i := 761) (by decide +kernel), List.mem_of_getElem? (i := 762) (by decide +kernel)⟩
theorem lw_p15 : lw_okq (⟨"ResetRooms$Room", "follow", "(III)I"⟩, 16) := ⟨⟨by decide +kernel, by decide +kernel⟩, List.mem_of_getElem? (i := 65) (by decide +kernel), List.mem_of_getElem? (i := 861) (by decide +kernel), List.mem_of_getElem? (i := 862) (by decide +kernel)⟩
def lw_privs_1 : List (MethodName × Nat) := [(⟨"ResetRooms$BoxText", "matchesDigits", "(II)Z"⟩, 7), (⟨"ResetRooms$BoxText", "digitHere", "()Z"⟩, 7), (⟨"ResetRooms$BoxText", "signHere", "()I"⟩, 7), (⟨"ResetRooms$BoxText", "matchesWord", "(Ljava/lang/String;)Z"⟩, 7), (⟨"ResetRooms$BoxText", "matchesLock", "()Z"⟩, 7), (⟨"ResetRooms$Log", "appendNumber", "(I)V"⟩, 2), (⟨"ResetRooms$Log", "appendSign", "(I)V"⟩, 2), (⟨"ResetRooms$Log", "appendArgument", "(I)V"⟩, 2), (⟨"ResetRooms$Room", "stepForCode", "(I)I"⟩, 16), (⟨"ResetRooms$Room", "lowestUnknownPlace", "(I)I"⟩, 16), (⟨"ResetRooms$Room", "stepForThing", "(I)I"⟩, 16), (⟨"ResetRooms$Room", "stepToHold", "(I)I"⟩, 16), (⟨"ResetRooms$Room", "lowestHeld", "()I"⟩, 16), (⟨"ResetRooms$State", "cluesOfReset", "()I"⟩, 9), (⟨"ResetRooms", "slotState", "(I)LResetRooms$State;"⟩, 6), (⟨"ResetRooms$Room", "follow", "(III)I"⟩, 16)]
theorem lw_r1 : ∀ q ∈ lw_privs_1, lw_okq q := List.forall_mem_cons.mpr ⟨lw_p0, List.forall_mem_cons.mpr ⟨lw_p1, List.forall_mem_cons.mpr ⟨lw_p2, List.forall_mem_cons.mpr ⟨lw_p3, List.forall_mem_cons.mpr ⟨lw_p4, List.forall_mem_cons.mpr ⟨lw_p5, List.forall_mem_cons.mpr ⟨lw_p6, List.forall_mem_cons.mpr ⟨lw_p7, List.forall_mem_cons.mpr ⟨lw_p8, List.forall_mem_cons.mpr ⟨lw_p9, List.forall_mem_cons.mpr ⟨lw_p10, List.forall_mem_cons.mpr ⟨lw_p11, List.forall_mem_cons.mpr ⟨lw_p12, List.forall_mem_cons.mpr ⟨lw_p13, List.forall_mem_cons.mpr ⟨lw_p14, List.forall_mem_cons.mpr ⟨lw_p15, fun _ h => absurd h List.not_mem_nil⟩⟩⟩⟩⟩⟩⟩⟩⟩⟩⟩⟩⟩⟩⟩⟩
theorem lw_p16 : lw_okq (⟨"ResetRoomsModel", "faultOfText", "()I"⟩, 14) := ⟨⟨by decide +kernel, by decide +kernel⟩, List.mem_of_getElem? (i := 897) (by decide +kernel), List.mem_of_getElem? (i := 971) (by decide +kernel), List.mem_of_getElem? (i := 972) (by decide +kernel)⟩
theorem lw_p17 : lw_okq (⟨"ResetRoomsModel", "number", "(II)I"⟩, 14) := ⟨⟨by decide +kernel, by decide +kernel⟩, List.mem_of_getElem? (i := 897) (by decide +kernel), List.mem_of_getElem? (i := 975) (by decide +kernel), List.mem_of_getElem? (i := 976) (by decide +kernel)⟩
theorem lw_p18 : lw_okq (⟨"ResetRoomsModel", "seesDigit", "()Z"⟩, 14) := ⟨⟨by decide +kernel, by decide +kernel⟩, List.mem_of_getElem? (i := 897) (by decide +kernel), List.mem_of_getElem? (i := 979) (by decide +kernel), List.mem_of_getElem? (i := 980) (by decide +kernel)⟩
theorem lw_p19 : lw_okq (⟨"ResetRoomsModel", "sees", "()I"⟩, 14) := ⟨⟨by decide +kernel, by decide +kernel⟩, List.mem_of_getElem? (i := 897) (by decide +kernel), List.mem_of_getElem? (i := 983) (by decide +kernel), List.mem_of_getElem? (i := 984) (by decide +kernel)⟩
theorem lw_p20 : lw_okq (⟨"ResetRoomsModel", "takes", "(I)V"⟩, 14) := ⟨⟨by decide +kernel, by decide +kernel⟩, List.mem_of_getElem? (i := 897) (by decide +kernel), List.mem_of_getElem? (i := 987) (by decide +kernel), List.mem_of_getElem? (i := 988) (by decide +kernel)⟩
theorem lw_p21 : lw_okq (⟨"ResetRoomsModel", "readsLock", "()V"⟩, 14) := ⟨⟨by decide +kernel, by decide +kernel⟩, List.mem_of_getElem? (i := 897) (by decide +kernel), List.mem_of_getElem? (i := 991) (by decide +kernel), List.mem_of_getElem? (i := 992) (by decide +kernel)⟩
theorem lw_p22 : lw_okq (⟨"ResetRoomsModel", "noBox", "(I)Z"⟩, 14) := ⟨⟨by decide +kernel, by decide +kernel⟩, List.mem_of_getElem? (i := 897) (by decide +kernel), List.mem_of_getElem? (i := 998) (by decide +kernel), List.mem_of_getElem? (i := 999) (by decide +kernel)⟩
theorem lw_p23 : lw_okq (⟨"ResetRoomsModel", "noProp", "(I)Z"⟩, 14) := ⟨⟨by decide +kernel, by decide +kernel⟩, List.mem_of_getElem? (i := 897) (by decide +kernel), List.mem_of_getElem? (i := 1002) (by decide +kernel), List.mem_of_getElem? (i := 1003) (by decide +kernel)⟩
theorem lw_p24 : lw_okq (⟨"ResetRoomsModel", "plays", "()Z"⟩, 14) := ⟨⟨by decide +kernel, by decide +kernel⟩, List.mem_of_getElem? (i := 897) (by decide +kernel), List.mem_of_getElem? (i := 1006) (by decide +kernel), List.mem_of_getElem? (i := 1007) (by decide +kernel)⟩
theorem lw_p25 : lw_okq (⟨"ResetRoomsModel", "noGroup", "(I)Z"⟩, 14) := ⟨⟨by decide +kernel, by decide +kernel⟩, List.mem_of_getElem? (i := 897) (by decide +kernel), List.mem_of_getElem? (i := 1039) (by decide +kernel), List.mem_of_getElem? (i := 1040) (by decide +kernel)⟩
theorem lw_p26 : lw_okq (⟨"ResetRoomsModel", "removeGroup", "(I)V"⟩, 14) := ⟨⟨by decide +kernel, by decide +kernel⟩, List.mem_of_getElem? (i := 897) (by decide +kernel), List.mem_of_getElem? (i := 1043) (by decide +kernel), List.mem_of_getElem? (i := 1044) (by decide +kernel)⟩
theorem lw_p27 : lw_okq (⟨"ResetRoomsModel", "isOpen", "(I)Z"⟩, 14) := ⟨⟨by decide +kernel, by decide +kernel⟩, List.mem_of_getElem? (i := 897) (by decide +kernel), List.mem_of_getElem? (i := 1051) (by decide +kernel), List.mem_of_getElem? (i := 1052) (by decide +kernel)⟩
theorem lw_p28 : lw_okq (⟨"ResetRoomsModel", "pass", "(I)V"⟩, 14) := ⟨⟨by decide +kernel, by decide +kernel⟩, List.mem_of_getElem? (i := 897) (by decide +kernel), List.mem_of_getElem? (i := 1055) (by decide +kernel), List.mem_of_getElem? (i := 1056) (by decide +kernel)⟩
theorem lw_p29 : lw_okq (⟨"ResetRoomsModel", "clueAtHand", "(I)Z"⟩, 14) := ⟨⟨by decide +kernel, by decide +kernel⟩, List.mem_of_getElem? (i := 897) (by decide +kernel), List.mem_of_getElem? (i := 1059) (by decide +kernel), List.mem_of_getElem? (i := 1060) (by decide +kernel)⟩
theorem lw_p30 : lw_okq (⟨"ResetRoomsModel", "propAtHand", "(I)Z"⟩, 14) := ⟨⟨by decide +kernel, by decide +kernel⟩, List.mem_of_getElem? (i := 897) (by decide +kernel), List.mem_of_getElem? (i := 1063) (by decide +kernel), List.mem_of_getElem? (i := 1064) (by decide +kernel)⟩
theorem lw_p31 : lw_okq (⟨"ResetRoomsModel", "isHeld", "(I)Z"⟩, 14) := ⟨⟨by decide +kernel, by decide +kernel⟩, List.mem_of_getElem? (i := 897) (by decide +kernel), List.mem_of_getElem? (i := 1067) (by decide +kernel), List.mem_of_getElem? (i := 1068) (by decide +kernel)⟩
def lw_privs_2 : List (MethodName × Nat) := [(⟨"ResetRoomsModel", "faultOfText", "()I"⟩, 14), (⟨"ResetRoomsModel", "number", "(II)I"⟩, 14), (⟨"ResetRoomsModel", "seesDigit", "()Z"⟩, 14), (⟨"ResetRoomsModel", "sees", "()I"⟩, 14), (⟨"ResetRoomsModel", "takes", "(I)V"⟩, 14), (⟨"ResetRoomsModel", "readsLock", "()V"⟩, 14), (⟨"ResetRoomsModel", "noBox", "(I)Z"⟩, 14), (⟨"ResetRoomsModel", "noProp", "(I)Z"⟩, 14), (⟨"ResetRoomsModel", "plays", "()Z"⟩, 14), (⟨"ResetRoomsModel", "noGroup", "(I)Z"⟩, 14), (⟨"ResetRoomsModel", "removeGroup", "(I)V"⟩, 14), (⟨"ResetRoomsModel", "isOpen", "(I)Z"⟩, 14), (⟨"ResetRoomsModel", "pass", "(I)V"⟩, 14), (⟨"ResetRoomsModel", "clueAtHand", "(I)Z"⟩, 14), (⟨"ResetRoomsModel", "propAtHand", "(I)Z"⟩, 14), (⟨"ResetRoomsModel", "isHeld", "(I)Z"⟩, 14)]
theorem lw_r2 : ∀ q ∈ lw_privs_2, lw_okq q := List.forall_mem_cons.mpr ⟨lw_p16, List.forall_mem_cons.mpr ⟨lw_p17, List.forall_mem_cons.mpr ⟨lw_p18, List.forall_mem_cons.mpr ⟨lw_p19, List.forall_mem_cons.mpr ⟨lw_p20, List.forall_mem_cons.mpr ⟨lw_p21, List.forall_mem_cons.mpr ⟨lw_p22, List.forall_mem_cons.mpr ⟨lw_p23, List.forall_mem_cons.mpr ⟨lw_p24, List.forall_mem_cons.mpr ⟨lw_p25, List.forall_mem_cons.mpr ⟨lw_p26, List.forall_mem_cons.mpr ⟨lw_p27, List.forall_mem_cons.mpr ⟨lw_p28, List.forall_mem_cons.mpr ⟨lw_p29, List.forall_mem_cons.mpr ⟨lw_p30, List.forall_mem_cons.mpr ⟨lw_p31, fun _ h => absurd h List.not_mem_nil⟩⟩⟩⟩⟩⟩⟩⟩⟩⟩⟩⟩⟩⟩⟩⟩
theorem lw_p32 : lw_okq (⟨"ResetRoomsModel", "closedFrom", "(I)I"⟩, 14) := ⟨⟨by decide +kernel, by decide +kernel⟩, List.mem_of_getElem? (i := 897) (by decide +kernel), List.mem_of_getElem? (i := 1071) (by decide +kernel), List.mem_of_getElem? (i := 1072) (by decide +kernel)⟩
theorem lw_p33 : lw_okq (⟨"ResetRoomsModel", "notAtHome", "()I"⟩, 14) := ⟨⟨by decide +kernel, by decide +kernel⟩, List.mem_of_getElem? (i := 897) (by decide +kernel), List.mem_of_getElem? (i := 1075) (by decide +kernel), List.mem_of_getElem? (i := 1076) (by decide +kernel)⟩
theorem lw_p34 : lw_okq (⟨"ResetRoomsModel", "openOnes", "()I"⟩, 14) := ⟨⟨by decide +kernel, by decide +kernel⟩, List.mem_of_getElem? (i := 897) (by decide +kernel), List.mem_of_getElem? (i := 1079) (by decide +kernel), List.mem_of_getElem? (i := 1080) (by decide +kernel)⟩
theorem lw_p35 : lw_okq (⟨"ResetRoomsModel", "held", "()I"⟩, 14) := ⟨⟨by decide +kernel, by decide +kernel⟩, List.mem_of_getElem? (i := 897) (by decide +kernel), List.mem_of_getElem? (i := 1087) (by decide +kernel), List.mem_of_getElem? (i := 1088) (by decide +kernel)⟩
theorem lw_p36 : lw_okq (⟨"ResetRoomsModel", "lessHalf", "(I)I"⟩, 14) := ⟨⟨by decide +kernel, by decide +kernel⟩, List.mem_of_getElem? (i := 897) (by decide +kernel), List.mem_of_getElem? (i := 1091) (by decide +kernel), List.mem_of_getElem? (i := 1092) (by decide +kernel)⟩
theorem lw_p37 : lw_okq (⟨"ResetRoomsModel", "isOver", "(I)Z"⟩, 14) := ⟨⟨by decide +kernel, by decide +kernel⟩, List.mem_of_getElem? (i := 897) (by decide +kernel), List.mem_of_getElem? (i := 1095) (by decide +kernel), List.mem_of_getElem? (i := 1096) (by decide +kernel)⟩
theorem lw_p38 : lw_okq (⟨"ResetRoomsModel", "minutesLeft", "()I"⟩, 14) := ⟨⟨by decide +kernel, by decide +kernel⟩, List.mem_of_getElem? (i := 897) (by decide +kernel), List.mem_of_getElem? (i := 1099) (by decide +kernel), List.mem_of_getElem? (i := 1100) (by decide +kernel)⟩
theorem lw_p39 : lw_okq (⟨"ResetRoomsModel", "note", "(III)V"⟩, 14) := ⟨⟨by decide +kernel, by decide +kernel⟩, List.mem_of_getElem? (i := 897) (by decide +kernel), List.mem_of_getElem? (i := 1103) (by decide +kernel), List.mem_of_getElem? (i := 1104) (by decide +kernel)⟩
theorem lw_p40 : lw_okq (⟨"ResetRoomsModel", "end", "(I)V"⟩, 14) := ⟨⟨by decide +kernel, by decide +kernel⟩, List.mem_of_getElem? (i := 897) (by decide +kernel), List.mem_of_getElem? (i := 1107) (by decide +kernel), List.mem_of_getElem? (i := 1108) (by decide +kernel)⟩
theorem lw_p41 : lw_okq (⟨"ResetRoomsModel", "boxAtHand", "(I)Z"⟩, 14) := ⟨⟨by decide +kernel, by decide +kernel⟩, List.mem_of_getElem? (i := 897) (by decide +kernel), List.mem_of_getElem? (i := 1115) (by decide +kernel), List.mem_of_getElem? (i := 1116) (by decide +kernel)⟩
theorem lw_p42 : lw_okq (⟨"ResetRoomsModel", "closedAround", "(I)I"⟩, 14) := ⟨⟨by decide +kernel, by decide +kernel⟩, List.mem_of_getElem? (i := 897) (by decide +kernel), List.mem_of_getElem? (i := 1119) (by decide +kernel), List.mem_of_getElem? (i := 1120) (by decide +kernel)⟩
theorem lw_p43 : lw_okq (⟨"ResetRoomsModel", "lets", "(I)Z"⟩, 14) := ⟨⟨by decide +kernel, by decide +kernel⟩, List.mem_of_getElem? (i := 897) (by decide +kernel), List.mem_of_getElem? (i := 1127) (by decide +kernel), List.mem_of_getElem? (i := 1128) (by decide +kernel)⟩
theorem lw_p44 : lw_okq (⟨"ResetRoomsModel", "noClue", "(I)Z"⟩, 14) := ⟨⟨by decide +kernel, by decide +kernel⟩, List.mem_of_getElem? (i := 897) (by decide +kernel), List.mem_of_getElem? (i := 1135) (by decide +kernel), List.mem_of_getElem? (i := 1136) (by decide +kernel)⟩
theorem lw_p45 : lw_okq (⟨"ResetRoomsModel", "readMinutes", "(I)I"⟩, 14) := ⟨⟨by decide +kernel, by decide +kernel⟩, List.mem_of_getElem? (i := 897) (by decide +kernel), List.mem_of_getElem? (i := 1139) (by decide +kernel), List.mem_of_getElem? (i := 1140) (by decide +kernel)⟩
theorem lw_p46 : lw_okq (⟨"ResetRoomsModel", "learn", "(I)V"⟩, 14) := ⟨⟨by decide +kernel, by decide +kernel⟩, List.mem_of_getElem? (i := 897) (by decide +kernel), List.mem_of_getElem? (i := 1143) (by decide +kernel), List.mem_of_getElem? (i := 1144) (by decide +kernel)⟩
theorem lw_p47 : lw_okq (⟨"ResetRoomsModel", "digitOf", "(I)I"⟩, 14) := ⟨⟨by decide +kernel, by decide +kernel⟩, List.mem_of_getElem? (i := 897) (by decide +kernel), List.mem_of_getElem? (i := 1147) (by decide +kernel), List.mem_of_getElem? (i := 1148) (by decide +kernel)⟩
def lw_privs_3 : List (MethodName × Nat) := [(⟨"ResetRoomsModel", "closedFrom", "(I)I"⟩, 14), (⟨"ResetRoomsModel", "notAtHome", "()I"⟩, 14), (⟨"ResetRoomsModel", "openOnes", "()I"⟩, 14), (⟨"ResetRoomsModel", "held", "()I"⟩, 14), (⟨"ResetRoomsModel", "lessHalf", "(I)I"⟩, 14), (⟨"ResetRoomsModel", "isOver", "(I)Z"⟩, 14), (⟨"ResetRoomsModel", "minutesLeft", "()I"⟩, 14), (⟨"ResetRoomsModel", "note", "(III)V"⟩, 14), (⟨"ResetRoomsModel", "end", "(I)V"⟩, 14), (⟨"ResetRoomsModel", "boxAtHand", "(I)Z"⟩, 14), (⟨"ResetRoomsModel", "closedAround", "(I)I"⟩, 14), (⟨"ResetRoomsModel", "lets", "(I)Z"⟩, 14), (⟨"ResetRoomsModel", "noClue", "(I)Z"⟩, 14), (⟨"ResetRoomsModel", "readMinutes", "(I)I"⟩, 14), (⟨"ResetRoomsModel", "learn", "(I)V"⟩, 14), (⟨"ResetRoomsModel", "digitOf", "(I)I"⟩, 14)]
theorem lw_r3 : ∀ q ∈ lw_privs_3, lw_okq q := List.forall_mem_cons.mpr ⟨lw_p32, List.forall_mem_cons.mpr ⟨lw_p33, List.forall_mem_cons.mpr ⟨lw_p34, List.forall_mem_cons.mpr ⟨lw_p35, List.forall_mem_cons.mpr ⟨lw_p36, List.forall_mem_cons.mpr ⟨lw_p37, List.forall_mem_cons.mpr ⟨lw_p38, List.forall_mem_cons.mpr ⟨lw_p39, List.forall_mem_cons.mpr ⟨lw_p40, List.forall_mem_cons.mpr ⟨lw_p41, List.forall_mem_cons.mpr ⟨lw_p42, List.forall_mem_cons.mpr ⟨lw_p43, List.forall_mem_cons.mpr ⟨lw_p44, List.forall_mem_cons.mpr ⟨lw_p45, List.forall_mem_cons.mpr ⟨lw_p46, List.forall_mem_cons.mpr ⟨lw_p47, fun _ h => absurd h List.not_mem_nil⟩⟩⟩⟩⟩⟩⟩⟩⟩⟩⟩⟩⟩⟩⟩⟩
theorem lw_p48 : lw_okq (⟨"ResetRoomsModel", "step", "()I"⟩, 14) := ⟨⟨by decide +kernel, by decide +kernel⟩, List.mem_of_getElem? (i := 897) (by decide +kernel), List.mem_of_getElem? (i := 1159) (by decide +kernel), List.mem_of_getElem? (i := 1160) (by decide +kernel)⟩
theorem lw_p49 : lw_okq (⟨"ResetRoomsModel", "stepFor", "(I)I"⟩, 14) := ⟨⟨by decide +kernel, by decide +kernel⟩, List.mem_of_getElem? (i := 897) (by decide +kernel), List.mem_of_getElem? (i := 1163) (by decide +kernel), List.mem_of_getElem? (i := 1164) (by decide +kernel)⟩
theorem lw_p50 : lw_okq (⟨"ResetRoomsModel", "lowestUnknown", "(I)I"⟩, 14) := ⟨⟨by decide +kernel, by decide +kernel⟩, List.mem_of_getElem? (i := 897) (by decide +kernel), List.mem_of_getElem? (i := 1167) (by decide +kernel), List.mem_of_getElem? (i := 1168) (by decide +kernel)⟩
theorem lw_p51 : lw_okq (⟨"ResetRoomsModel", "clueFor", "(IIZ)I"⟩, 14) := ⟨⟨by decide +kernel, by decide +kernel⟩, List.mem_of_getElem? (i := 897) (by decide +kernel), List.mem_of_getElem? (i := 1171) (by decide +kernel), List.mem_of_getElem? (i := 1172) (by decide +kernel)⟩
theorem lw_p52 : lw_okq (⟨"ResetRoomsModel", "stepToHold", "(I)I"⟩, 14) := ⟨⟨by decide +kernel, by decide +kernel⟩, List.mem_of_getElem? (i := 897) (by decide +kernel), List.mem_of_getElem? (i := 1175) (by decide +kernel), List.mem_of_getElem? (i := 1176) (by decide +kernel)⟩
theorem lw_p53 : lw_okq (⟨"ResetRoomsModel", "lowestHeld", "()I"⟩, 14) := ⟨⟨by decide +kernel, by decide +kernel⟩, List.mem_of_getElem? (i := 897) (by decide +kernel), List.mem_of_getElem? (i := 1179) (by decide +kernel), List.mem_of_getElem? (i := 1180) (by decide +kernel)⟩
theorem lw_p54 : lw_okq (⟨"ResetRoomsModel", "planned", "(I)I"⟩, 14) := ⟨⟨by decide +kernel, by decide +kernel⟩, List.mem_of_getElem? (i := 897) (by decide +kernel), List.mem_of_getElem? (i := 1195) (by decide +kernel), List.mem_of_getElem? (i := 1196) (by decide +kernel)⟩
theorem lw_p55 : lw_okq (⟨"ResetRoomsModel", "resetMinutes", "()I"⟩, 14) := ⟨⟨by decide +kernel, by decide +kernel⟩, List.mem_of_getElem? (i := 897) (by decide +kernel), List.mem_of_getElem? (i := 1219) (by decide +kernel), List.mem_of_getElem? (i := 1220) (by decide +kernel)⟩
theorem lw_p56 : lw_okq (⟨"ResetRoomsModel", "written", "(ZZ)I"⟩, 14) := ⟨⟨by decide +kernel, by decide +kernel⟩, List.mem_of_getElem? (i := 897) (by decide +kernel), List.mem_of_getElem? (i := 1223) (by decide +kernel), List.mem_of_getElem? (i := 1224) (by decide +kernel)⟩
theorem lw_p57 : lw_okq (⟨"ResetRoomsModel", "propsIn", "(I)I"⟩, 14) := ⟨⟨by decide +kernel, by decide +kernel⟩, List.mem_of_getElem? (i := 897) (by decide +kernel), List.mem_of_getElem? (i := 1231) (by decide +kernel), List.mem_of_getElem? (i := 1232) (by decide +kernel)⟩
theorem lw_p58 : lw_okq (⟨"ResetRoomsModel", "boxesIn", "(I)I"⟩, 14) := ⟨⟨by decide +kernel, by decide +kernel⟩, List.mem_of_getElem? (i := 897) (by decide +kernel), List.mem_of_getElem? (i := 1235) (by decide +kernel), List.mem_of_getElem? (i := 1236) (by decide +kernel)⟩
theorem lw_p59 : lw_okq (⟨"ResetRoomsModel", "cluesOn", "(I)I"⟩, 14) := ⟨⟨by decide +kernel, by decide +kernel⟩, List.mem_of_getElem? (i := 897) (by decide +kernel), List.mem_of_getElem? (i := 1243) (by decide +kernel), List.mem_of_getElem? (i := 1244) (by decide +kernel)⟩
theorem lw_p60 : lw_okq (⟨"ResetRoomsModel", "locksWith", "(I)I"⟩, 14) := ⟨⟨by decide +kernel, by decide +kernel⟩, List.mem_of_getElem? (i := 897) (by decide +kernel), List.mem_of_getElem? (i := 1247) (by decide +kernel), List.mem_of_getElem? (i := 1248) (by decide +kernel)⟩
theorem lw_p61 : lw_okq (⟨"ResetRoomsModel", "heldSet", "()I"⟩, 14) := ⟨⟨by decide +kernel, by decide +kernel⟩, List.mem_of_getElem? (i := 897) (by decide +kernel), List.mem_of_getElem? (i := 1259) (by decide +kernel), List.mem_of_getElem? (i := 1260) (by decide +kernel)⟩
theorem lw_p62 : lw_okq (⟨"ResetRoomsModel", "startOf", "(I)I"⟩, 14) := ⟨⟨by decide +kernel, by decide +kernel⟩, List.mem_of_getElem? (i := 897) (by decide +kernel), List.mem_of_getElem? (i := 1267) (by decide +kernel), List.mem_of_getElem? (i := 1268) (by decide +kernel)⟩
theorem lw_p63 : lw_okq (⟨"ResetRoomsModel", "faded", "()I"⟩, 14) := ⟨⟨by decide +kernel, by decide +kernel⟩, List.mem_of_getElem? (i := 897) (by decide +kernel), List.mem_of_getElem? (i := 1279) (by decide +kernel), List.mem_of_getElem? (i := 1280) (by decide +kernel)⟩
def lw_privs_4 : List (MethodName × Nat) := [(⟨"ResetRoomsModel", "step", "()I"⟩, 14), (⟨"ResetRoomsModel", "stepFor", "(I)I"⟩, 14), (⟨"ResetRoomsModel", "lowestUnknown", "(I)I"⟩, 14), (⟨"ResetRoomsModel", "clueFor", "(IIZ)I"⟩, 14), (⟨"ResetRoomsModel", "stepToHold", "(I)I"⟩, 14), (⟨"ResetRoomsModel", "lowestHeld", "()I"⟩, 14), (⟨"ResetRoomsModel", "planned", "(I)I"⟩, 14), (⟨"ResetRoomsModel", "resetMinutes", "()I"⟩, 14), (⟨"ResetRoomsModel", "written", "(ZZ)I"⟩, 14), (⟨"ResetRoomsModel", "propsIn", "(I)I"⟩, 14), (⟨"ResetRoomsModel", "boxesIn", "(I)I"⟩, 14), (⟨"ResetRoomsModel", "cluesOn", "(I)I"⟩, 14), (⟨"ResetRoomsModel", "locksWith", "(I)I"⟩, 14), (⟨"ResetRoomsModel", "heldSet", "()I"⟩, 14), (⟨"ResetRoomsModel", "startOf", "(I)I"⟩, 14), (⟨"ResetRoomsModel", "faded", "()I"⟩, 14)]
theorem lw_r4 : ∀ q ∈ lw_privs_4, lw_okq q := List.forall_mem_cons.mpr ⟨lw_p48, List.forall_mem_cons.mpr ⟨lw_p49, List.forall_mem_cons.mpr ⟨lw_p50, List.forall_mem_cons.mpr ⟨lw_p51, List.forall_mem_cons.mpr ⟨lw_p52, List.forall_mem_cons.mpr ⟨lw_p53, List.forall_mem_cons.mpr ⟨lw_p54, List.forall_mem_cons.mpr ⟨lw_p55, List.forall_mem_cons.mpr ⟨lw_p56, List.forall_mem_cons.mpr ⟨lw_p57, List.forall_mem_cons.mpr ⟨lw_p58, List.forall_mem_cons.mpr ⟨lw_p59, List.forall_mem_cons.mpr ⟨lw_p60, List.forall_mem_cons.mpr ⟨lw_p61, List.forall_mem_cons.mpr ⟨lw_p62, List.forall_mem_cons.mpr ⟨lw_p63, fun _ h => absurd h List.not_mem_nil⟩⟩⟩⟩⟩⟩⟩⟩⟩⟩⟩⟩⟩⟩⟩⟩
theorem lw_p64 : lw_okq (⟨"ResetRoomsModel", "spell", "(I)V"⟩, 14) := ⟨⟨by decide +kernel, by decide +kernel⟩, List.mem_of_getElem? (i := 897) (by decide +kernel), List.mem_of_getElem? (i := 1287) (by decide +kernel), List.mem_of_getElem? (i := 1288) (by decide +kernel)⟩
theorem lw_p65 : lw_okq (⟨"ResetRoomsModel", "putNumber", "(I)V"⟩, 14) := ⟨⟨by decide +kernel, by decide +kernel⟩, List.mem_of_getElem? (i := 897) (by decide +kernel), List.mem_of_getElem? (i := 1291) (by decide +kernel), List.mem_of_getElem? (i := 1292) (by decide +kernel)⟩
theorem lw_p66 : lw_okq (⟨"ResetRoomsModel", "put", "(I)V"⟩, 14) := ⟨⟨by decide +kernel, by decide +kernel⟩, List.mem_of_getElem? (i := 897) (by decide +kernel), List.mem_of_getElem? (i := 1295) (by decide +kernel), List.mem_of_getElem? (i := 1296) (by decide +kernel)⟩
theorem lw_p67 : lw_okq (⟨"ResetRoomsModel", "behind", "()I"⟩, 14) := ⟨⟨by decide +kernel, by decide +kernel⟩, List.mem_of_getElem? (i := 897) (by decide +kernel), List.mem_of_getElem? (i := 1312) (by decide +kernel), List.mem_of_getElem? (i := 1313) (by decide +kernel)⟩
theorem lw_p68 : lw_okq (⟨"ResetRoomsModel", "wins", "()I"⟩, 14) := ⟨⟨by decide +kernel, by decide +kernel⟩, List.mem_of_getElem? (i := 897) (by decide +kernel), List.mem_of_getElem? (i := 1316) (by decide +kernel), List.mem_of_getElem? (i := 1317) (by decide +kernel)⟩
theorem lw_p69 : lw_okq (⟨"ResetRoomsModel", "logLength", "()I"⟩, 14) := ⟨⟨by decide +kernel, by decide +kernel⟩, List.mem_of_getElem? (i := 897) (by decide +kernel), List.mem_of_getElem? (i := 1320) (by decide +kernel), List.mem_of_getElem? (i := 1321) (by decide +kernel)⟩
def lw_privs_5 : List (MethodName × Nat) := [(⟨"ResetRoomsModel", "spell", "(I)V"⟩, 14), (⟨"ResetRoomsModel", "putNumber", "(I)V"⟩, 14), (⟨"ResetRoomsModel", "put", "(I)V"⟩, 14), (⟨"ResetRoomsModel", "behind", "()I"⟩, 14), (⟨"ResetRoomsModel", "wins", "()I"⟩, 14), (⟨"ResetRoomsModel", "logLength", "()I"⟩, 14)]
theorem lw_r5 : ∀ q ∈ lw_privs_5, lw_okq q := List.forall_mem_cons.mpr ⟨lw_p64, List.forall_mem_cons.mpr ⟨lw_p65, List.forall_mem_cons.mpr ⟨lw_p66, List.forall_mem_cons.mpr ⟨lw_p67, List.forall_mem_cons.mpr ⟨lw_p68, List.forall_mem_cons.mpr ⟨lw_p69, fun _ h => absurd h List.not_mem_nil⟩⟩⟩⟩⟩⟩
def lw_privs : List (MethodName × Nat) := lw_privs_1 ++ (lw_privs_2 ++ (lw_privs_3 ++ (lw_privs_4 ++ (lw_privs_5))))
def lw_tbl : List Cond := k2_sels lw_privs ++ tables_1
theorem lw_privs_ok : ∀ q ∈ lw_privs, lw_okq q := by
  show ∀ q ∈ lw_privs_1 ++ (lw_privs_2 ++ (lw_privs_3 ++ (lw_privs_4 ++ (lw_privs_5)))), lw_okq q
  exact List.forall_mem_append.mpr ⟨lw_r1, List.forall_mem_append.mpr ⟨lw_r2, List.forall_mem_append.mpr ⟨lw_r3, List.forall_mem_append.mpr ⟨lw_r4, lw_r5⟩⟩⟩⟩

def RX0 : String := "ResetRooms$BoxText"
def TX0 : u_T := fun k => match k with
  | 0 => ("ResetRooms$BoxText", "signs", "[I", true)
  | 1 => ("ResetRooms$BoxText", "length", "I", false)
  | 2 => ("ResetRooms$BoxText", "outer", "I", false)
  | 3 => ("ResetRooms$BoxText", "lock", "I", false)
  | 4 => ("ResetRooms$BoxText", "item", "I", false)
  | 5 => ("ResetRooms$BoxText", "position", "I", false)
  | _ => ("ResetRooms$BoxText", "number", "I", false)
def tyX0 : Nat → FieldType := fun k => match k with
  | 0 => .array .int
  | 1 => .int
  | 2 => .int
  | 3 => .int
  | 4 => .int
  | 5 => .int
  | _ => .int
theorem nmX0 : ∀ a, a < 7 → ∀ b, b < 7 → a ≠ b → (TX0 a).2.1 ≠ (TX0 b).2.1 := by decide +kernel
theorem tyX0_ok : ∀ k, k < 7 → parseFieldDescriptor (TX0 k).2.2.1 = some (tyX0 k) := by decide +kernel
abbrev cX0_init : ByteArray := prog_2_method_1_code
def yX0_init : MethodName := ⟨RX0, "<init>", "()V"⟩
abbrev cX0_findFault : ByteArray := prog_2_method_2_code
def yX0_findFault : MethodName := ⟨RX0, "findFault", "()I"⟩
abbrev cX0_matchesLock : ByteArray := prog_2_method_3_code
def yX0_matchesLock : MethodName := ⟨RX0, "matchesLock", "()Z"⟩
abbrev cX0_matchesDigits : ByteArray := prog_2_method_4_code
def yX0_matchesDigits : MethodName := ⟨RX0, "matchesDigits", "(II)Z"⟩
abbrev cX0_matchesWord : ByteArray := prog_2_method_5_code
def yX0_matchesWord : MethodName := ⟨RX0, "matchesWord", "(Ljava/lang/String;)Z"⟩
abbrev cX0_digitHere : ByteArray := prog_2_method_6_code
def yX0_digitHere : MethodName := ⟨RX0, "digitHere", "()Z"⟩
abbrev cX0_signHere : ByteArray := prog_2_method_7_code
def yX0_signHere : MethodName := ⟨RX0, "signHere", "()I"⟩
def RX1 : String := "ResetRooms$Game"
def TX1 : u_T := fun k => match k with
  | 0 => ("ResetRooms$Game", "running", "Z", false)
  | 1 => ("ResetRooms$Game", "players", "I", false)
  | 2 => ("ResetRooms$Game", "wanted", "I", false)
  | 3 => ("ResetRooms$Game", "start", "I", false)
  | 4 => ("ResetRooms$Game", "nudgesTold", "I", false)
  | 5 => ("ResetRooms$Game", "wrongCodes", "I", false)
  | _ => ("ResetRooms$Game", "differences", "I", false)
def tyX1 : Nat → FieldType := fun k => match k with
  | 0 => .boolean
  | 1 => .int
  | 2 => .int
  | 3 => .int
  | 4 => .int
  | 5 => .int
  | _ => .int
theorem nmX1 : ∀ a, a < 7 → ∀ b, b < 7 → a ≠ b → (TX1 a).2.1 ≠ (TX1 b).2.1 := by decide +kernel
theorem tyX1_ok : ∀ k, k < 7 → parseFieldDescriptor (TX1 k).2.2.1 = some (tyX1 k) := by decide +kernel
abbrev cX1_init : ByteArray := prog_3_method_1_code
def yX1_init : MethodName := ⟨RX1, "<init>", "()V"⟩
abbrev cX1_copyFrom : ByteArray := prog_3_method_2_code
def yX1_copyFrom : MethodName := ⟨RX1, "copyFrom", "(LResetRooms$Game;)V"⟩
def RX2 : String := "ResetRooms$Log"
def TX2 : u_T := fun k => match k with
  | 0 => ("ResetRooms$Log", "length", "I", false)
  | _ => ("ResetRooms$Log", "signs", "[I", true)
def tyX2 : Nat → FieldType := fun k => match k with
  | 0 => .int
  | _ => .array .int
theorem nmX2 : ∀ a, a < 2 → ∀ b, b < 2 → a ≠ b → (TX2 a).2.1 ≠ (TX2 b).2.1 := by decide +kernel
theorem tyX2_ok : ∀ k, k < 2 → parseFieldDescriptor (TX2 k).2.2.1 = some (tyX2 k) := by decide +kernel
abbrev cX2_init : ByteArray := prog_4_method_1_code
def yX2_init : MethodName := ⟨RX2, "<init>", "()V"⟩
abbrev cX2_copyFrom : ByteArray := prog_4_method_2_code
def yX2_copyFrom : MethodName := ⟨RX2, "copyFrom", "(LResetRooms$Log;)V"⟩
abbrev cX2_append : ByteArray := prog_4_method_3_code
def yX2_append : MethodName := ⟨RX2, "append", "(ILjava/lang/String;II)V"⟩
abbrev cX2_appendArgument : ByteArray := prog_4_method_4_code
def yX2_appendArgument : MethodName := ⟨RX2, "appendArgument", "(I)V"⟩
abbrev cX2_appendNumber : ByteArray := prog_4_method_5_code
def yX2_appendNumber : MethodName := ⟨RX2, "appendNumber", "(I)V"⟩
abbrev cX2_appendSign : ByteArray := prog_4_method_6_code
def yX2_appendSign : MethodName := ⟨RX2, "appendSign", "(I)V"⟩
def RX3 : String := "ResetRooms$Queue"
def TX3 : u_T := fun k => match k with
  | 0 => ("ResetRooms$Queue", "waiting", "I", false)
  | 1 => ("ResetRooms$Queue", "players", "[I", true)
  | _ => ("ResetRooms$Queue", "starts", "[I", true)
def tyX3 : Nat → FieldType := fun k => match k with
  | 0 => .int
  | 1 => .array .int
  | _ => .array .int
theorem nmX3 : ∀ a, a < 3 → ∀ b, b < 3 → a ≠ b → (TX3 a).2.1 ≠ (TX3 b).2.1 := by decide +kernel
theorem tyX3_ok : ∀ k, k < 3 → parseFieldDescriptor (TX3 k).2.2.1 = some (tyX3 k) := by decide +kernel
abbrev cX3_init : ByteArray := prog_5_method_1_code
def yX3_init : MethodName := ⟨RX3, "<init>", "()V"⟩
abbrev cX3_copyFrom : ByteArray := prog_5_method_2_code
def yX3_copyFrom : MethodName := ⟨RX3, "copyFrom", "(LResetRooms$Queue;)V"⟩
abbrev cX3_hasGroup : ByteArray := prog_5_method_3_code
def yX3_hasGroup : MethodName := ⟨RX3, "hasGroup", "(I)Z"⟩
abbrev cX3_append : ByteArray := prog_5_method_4_code
def yX3_append : MethodName := ⟨RX3, "append", "(II)V"⟩
abbrev cX3_remove : ByteArray := prog_5_method_5_code
def yX3_remove : MethodName := ⟨RX3, "remove", "(I)V"⟩
abbrev cX3_waitingBefore : ByteArray := prog_5_method_6_code
def yX3_waitingBefore : MethodName := ⟨RX3, "waitingBefore", "(I)I"⟩
def RX4 : String := "ResetRooms$Results"
def TX4 : u_T := fun k => match k with
  | 0 => ("ResetRooms$Results", "count", "I", false)
  | _ => ("ResetRooms$Results", "parts", "[I", true)
def tyX4 : Nat → FieldType := fun k => match k with
  | 0 => .int
  | _ => .array .int
theorem nmX4 : ∀ a, a < 2 → ∀ b, b < 2 → a ≠ b → (TX4 a).2.1 ≠ (TX4 b).2.1 := by decide +kernel
theorem tyX4_ok : ∀ k, k < 2 → parseFieldDescriptor (TX4 k).2.2.1 = some (tyX4 k) := by decide +kernel
abbrev cX4_init : ByteArray := prog_6_method_1_code
def yX4_init : MethodName := ⟨RX4, "<init>", "()V"⟩
abbrev cX4_copyFrom : ByteArray := prog_6_method_2_code
def yX4_copyFrom : MethodName := ⟨RX4, "copyFrom", "(LResetRooms$Results;)V"⟩
abbrev cX4_append : ByteArray := prog_6_method_3_code
def yX4_append : MethodName := ⟨RX4, "append", "(LResetRooms$Game;II)V"⟩
abbrev cX4_wins : ByteArray := prog_6_method_4_code
def yX4_wins : MethodName := ⟨RX4, "wins", "()I"⟩
def RX5 : String := "ResetRooms$Room"
def TX5 : u_T := fun k => match k with
  | 0 => ("ResetRooms$Room", "boxCount", "I", false)
  | 1 => ("ResetRooms$Room", "outer", "[I", true)
  | 2 => ("ResetRooms$Room", "lock", "[I", true)
  | 3 => ("ResetRooms$Room", "item", "[I", true)
  | 4 => ("ResetRooms$Room", "opened", "[I", true)
  | 5 => ("ResetRooms$Room", "known", "[I", true)
  | 6 => ("ResetRooms$Room", "propCount", "I", false)
  | 7 => ("ResetRooms$Room", "home", "[I", true)
  | 8 => ("ResetRooms$Room", "lies", "[I", true)
  | 9 => ("ResetRooms$Room", "clueCount", "I", false)
  | 10 => ("ResetRooms$Room", "clueProp", "[I", true)
  | 11 => ("ResetRooms$Room", "clueBox", "[I", true)
  | 12 => ("ResetRooms$Room", "cluePlace", "[I", true)
  | 13 => ("ResetRooms$Room", "ink", "[I", true)
  | 14 => ("ResetRooms$Room", "exit", "I", false)
  | _ => ("ResetRooms$Room", "hands", "I", false)
def tyX5 : Nat → FieldType := fun k => match k with
  | 0 => .int
  | 1 => .array .int
  | 2 => .array .int
  | 3 => .array .int
  | 4 => .array .int
  | 5 => .array .int
  | 6 => .int
  | 7 => .array .int
  | 8 => .array .int
  | 9 => .int
  | 10 => .array .int
  | 11 => .array .int
  | 12 => .array .int
  | 13 => .array .int
  | 14 => .int
  | _ => .int
theorem nmX5 : ∀ a, a < 16 → ∀ b, b < 16 → a ≠ b → (TX5 a).2.1 ≠ (TX5 b).2.1 := by decide +kernel
theorem tyX5_ok : ∀ k, k < 16 → parseFieldDescriptor (TX5 k).2.2.1 = some (tyX5 k) := by decide +kernel
abbrev cX5_init : ByteArray := prog_7_method_1_code
def yX5_init : MethodName := ⟨RX5, "<init>", "()V"⟩
abbrev cX5_copyFrom : ByteArray := prog_7_method_2_code
def yX5_copyFrom : MethodName := ⟨RX5, "copyFrom", "(LResetRooms$Room;)V"⟩
abbrev cX5_appendBox : ByteArray := prog_7_method_3_code
def yX5_appendBox : MethodName := ⟨RX5, "appendBox", "(III)I"⟩
abbrev cX5_appendProp : ByteArray := prog_7_method_4_code
def yX5_appendProp : MethodName := ⟨RX5, "appendProp", "(I)I"⟩
abbrev cX5_appendClue : ByteArray := prog_7_method_5_code
def yX5_appendClue : MethodName := ⟨RX5, "appendClue", "(III)I"⟩
abbrev cX5_hasBox : ByteArray := prog_7_method_6_code
def yX5_hasBox : MethodName := ⟨RX5, "hasBox", "(I)Z"⟩
abbrev cX5_hasProp : ByteArray := prog_7_method_7_code
def yX5_hasProp : MethodName := ⟨RX5, "hasProp", "(I)Z"⟩
abbrev cX5_hasClue : ByteArray := prog_7_method_8_code
def yX5_hasClue : MethodName := ⟨RX5, "hasClue", "(I)Z"⟩
abbrev cX5_hasLock : ByteArray := prog_7_method_9_code
def yX5_hasLock : MethodName := ⟨RX5, "hasLock", "(II)Z"⟩
abbrev cX5_isOpen : ByteArray := prog_7_method_10_code
def yX5_isOpen : MethodName := ⟨RX5, "isOpen", "(I)Z"⟩
abbrev cX5_isHeld : ByteArray := prog_7_method_11_code
def yX5_isHeld : MethodName := ⟨RX5, "isHeld", "(I)Z"⟩
abbrev cX5_outermostClosed : ByteArray := prog_7_method_12_code
def yX5_outermostClosed : MethodName := ⟨RX5, "outermostClosed", "(I)I"⟩
abbrev cX5_boxAtHand : ByteArray := prog_7_method_13_code
def yX5_boxAtHand : MethodName := ⟨RX5, "boxAtHand", "(I)Z"⟩
abbrev cX5_propAtHand : ByteArray := prog_7_method_14_code
def yX5_propAtHand : MethodName := ⟨RX5, "propAtHand", "(I)Z"⟩
abbrev cX5_clueAtHand : ByteArray := prog_7_method_15_code
def yX5_clueAtHand : MethodName := ⟨RX5, "clueAtHand", "(I)Z"⟩
abbrev cX5_canBeOpened : ByteArray := prog_7_method_16_code
def yX5_canBeOpened : MethodName := ⟨RX5, "canBeOpened", "(I)Z"⟩
abbrev cX5_propsIn : ByteArray := prog_7_method_17_code
def yX5_propsIn : MethodName := ⟨RX5, "propsIn", "(I)I"⟩
abbrev cX5_heldProps : ByteArray := prog_7_method_18_code
def yX5_heldProps : MethodName := ⟨RX5, "heldProps", "()I"⟩
abbrev cX5_heldBits : ByteArray := prog_7_method_19_code
def yX5_heldBits : MethodName := ⟨RX5, "heldBits", "()I"⟩
abbrev cX5_boxesIn : ByteArray := prog_7_method_20_code
def yX5_boxesIn : MethodName := ⟨RX5, "boxesIn", "(I)I"⟩
abbrev cX5_cluesOn : ByteArray := prog_7_method_21_code
def yX5_cluesOn : MethodName := ⟨RX5, "cluesOn", "(I)I"⟩
abbrev cX5_locksWith : ByteArray := prog_7_method_22_code
def yX5_locksWith : MethodName := ⟨RX5, "locksWith", "(I)I"⟩
abbrev cX5_propsAway : ByteArray := prog_7_method_23_code
def yX5_propsAway : MethodName := ⟨RX5, "propsAway", "()I"⟩
abbrev cX5_openBoxes : ByteArray := prog_7_method_24_code
def yX5_openBoxes : MethodName := ⟨RX5, "openBoxes", "()I"⟩
abbrev cX5_paleClues : ByteArray := prog_7_method_25_code
def yX5_paleClues : MethodName := ⟨RX5, "paleClues", "()I"⟩
abbrev cX5_isPale : ByteArray := prog_7_method_26_code
def yX5_isPale : MethodName := ⟨RX5, "isPale", "(I)Z"⟩
abbrev cX5_inkLack : ByteArray := prog_7_method_27_code
def yX5_inkLack : MethodName := ⟨RX5, "inkLack", "(I)I"⟩
abbrev cX5_fade : ByteArray := prog_7_method_28_code
def yX5_fade : MethodName := ⟨RX5, "fade", "(I)V"⟩
abbrev cX5_clueDigit : ByteArray := prog_7_method_29_code
def yX5_clueDigit : MethodName := ⟨RX5, "clueDigit", "(I)I"⟩
abbrev cX5_readingMinutes : ByteArray := prog_7_method_30_code
def yX5_readingMinutes : MethodName := ⟨RX5, "readingMinutes", "(I)I"⟩
abbrev cX5_learnFromClue : ByteArray := prog_7_method_31_code
def yX5_learnFromClue : MethodName := ⟨RX5, "learnFromClue", "(I)V"⟩
abbrev cX5_learnDigit : ByteArray := prog_7_method_32_code
def yX5_learnDigit : MethodName := ⟨RX5, "learnDigit", "(II)V"⟩
abbrev cX5_forgetDigits : ByteArray := prog_7_method_33_code
def yX5_forgetDigits : MethodName := ⟨RX5, "forgetDigits", "()V"⟩
abbrev cX5_dropHeldProps : ByteArray := prog_7_method_34_code
def yX5_dropHeldProps : MethodName := ⟨RX5, "dropHeldProps", "()V"⟩
abbrev cX5_bringPropsHome : ByteArray := prog_7_method_35_code
def yX5_bringPropsHome : MethodName := ⟨RX5, "bringPropsHome", "()V"⟩
abbrev cX5_closeBoxes : ByteArray := prog_7_method_36_code
def yX5_closeBoxes : MethodName := ⟨RX5, "closeBoxes", "()V"⟩
abbrev cX5_stepFor : ByteArray := prog_7_method_37_code
def yX5_stepFor : MethodName := ⟨RX5, "stepFor", "(I)I"⟩
abbrev cX5_stepForThing : ByteArray := prog_7_method_38_code
def yX5_stepForThing : MethodName := ⟨RX5, "stepForThing", "(I)I"⟩
abbrev cX5_stepToHold : ByteArray := prog_7_method_39_code
def yX5_stepToHold : MethodName := ⟨RX5, "stepToHold", "(I)I"⟩
abbrev cX5_lowestHeld : ByteArray := prog_7_method_40_code
def yX5_lowestHeld : MethodName := ⟨RX5, "lowestHeld", "()I"⟩
abbrev cX5_stepForCode : ByteArray := prog_7_method_41_code
def yX5_stepForCode : MethodName := ⟨RX5, "stepForCode", "(I)I"⟩
abbrev cX5_lowestUnknownPlace : ByteArray := prog_7_method_42_code
def yX5_lowestUnknownPlace : MethodName := ⟨RX5, "lowestUnknownPlace", "(I)I"⟩
abbrev cX5_minutesToExit : ByteArray := prog_7_method_43_code
def yX5_minutesToExit : MethodName := ⟨RX5, "minutesToExit", "()I"⟩
abbrev cX5_follow : ByteArray := prog_7_method_44_code
def yX5_follow : MethodName := ⟨RX5, "follow", "(III)I"⟩
def RX6 : String := "ResetRooms$State"
def TX6 : u_T := fun k => match k with
  | 0 => ("ResetRooms$State", "room", "LResetRooms$Room;", true)
  | 1 => ("ResetRooms$State", "queue", "LResetRooms$Queue;", true)
  | 2 => ("ResetRooms$State", "game", "LResetRooms$Game;", true)
  | 3 => ("ResetRooms$State", "results", "LResetRooms$Results;", true)
  | 4 => ("ResetRooms$State", "log", "LResetRooms$Log;", true)
  | 5 => ("ResetRooms$State", "clock", "I", false)
  | 6 => ("ResetRooms$State", "paint", "I", false)
  | 7 => ("ResetRooms$State", "limit", "I", false)
  | _ => ("ResetRooms$State", "nudges", "I", false)
def tyX6 : Nat → FieldType := fun k => match k with
  | 0 => .object "ResetRooms$Room"
  | 1 => .object "ResetRooms$Queue"
  | 2 => .object "ResetRooms$Game"
  | 3 => .object "ResetRooms$Results"
  | 4 => .object "ResetRooms$Log"
  | 5 => .int
  | 6 => .int
  | 7 => .int
  | _ => .int
theorem nmX6 : ∀ a, a < 9 → ∀ b, b < 9 → a ≠ b → (TX6 a).2.1 ≠ (TX6 b).2.1 := by decide +kernel
theorem tyX6_ok : ∀ k, k < 9 → parseFieldDescriptor (TX6 k).2.2.1 = some (tyX6 k) := by decide +kernel
abbrev cX6_init : ByteArray := prog_8_method_1_code
def yX6_init : MethodName := ⟨RX6, "<init>", "()V"⟩
abbrev cX6_copyFrom : ByteArray := prog_8_method_2_code
def yX6_copyFrom : MethodName := ⟨RX6, "copyFrom", "(LResetRooms$State;)V"⟩
abbrev cX6_pass : ByteArray := prog_8_method_3_code
def yX6_pass : MethodName := ⟨RX6, "pass", "(I)V"⟩
abbrev cX6_gameMinute : ByteArray := prog_8_method_4_code
def yX6_gameMinute : MethodName := ⟨RX6, "gameMinute", "()I"⟩
abbrev cX6_minutesLeft : ByteArray := prog_8_method_5_code
def yX6_minutesLeft : MethodName := ⟨RX6, "minutesLeft", "()I"⟩
abbrev cX6_hasTimeFor : ByteArray := prog_8_method_6_code
def yX6_hasTimeFor : MethodName := ⟨RX6, "hasTimeFor", "(I)Z"⟩
abbrev cX6_note : ByteArray := prog_8_method_7_code
def yX6_note : MethodName := ⟨RX6, "note", "(Ljava/lang/String;II)V"⟩
abbrev cX6_beginGame : ByteArray := prog_8_method_8_code
def yX6_beginGame : MethodName := ⟨RX6, "beginGame", "()I"⟩
abbrev cX6_endGame : ByteArray := prog_8_method_9_code
def yX6_endGame : MethodName := ⟨RX6, "endGame", "(Z)V"⟩
abbrev cX6_runOutOfTime : ByteArray := prog_8_method_10_code
def yX6_runOutOfTime : MethodName := ⟨RX6, "runOutOfTime", "()I"⟩
abbrev cX6_latestStart : ByteArray := prog_8_method_11_code
def yX6_latestStart : MethodName := ⟨RX6, "latestStart", "(I)I"⟩
abbrev cX6_refill : ByteArray := prog_8_method_12_code
def yX6_refill : MethodName := ⟨RX6, "refill", "(I)V"⟩
abbrev cX6_cluesOfReset : ByteArray := prog_8_method_13_code
def yX6_cluesOfReset : MethodName := ⟨RX6, "cluesOfReset", "()I"⟩
abbrev cX6_resetMinutes : ByteArray := prog_8_method_14_code
def yX6_resetMinutes : MethodName := ⟨RX6, "resetMinutes", "()I"⟩
abbrev cX6_resetPaint : ByteArray := prog_8_method_15_code
def yX6_resetPaint : MethodName := ⟨RX6, "resetPaint", "()I"⟩
abbrev cX6_bringToOrder : ByteArray := prog_8_method_16_code
def yX6_bringToOrder : MethodName := ⟨RX6, "bringToOrder", "()V"⟩
def RX7 : String := "ResetRooms"
def TX7 : u_T := fun k => match k with
  | 0 => ("ResetRooms", "text", "LResetRooms$BoxText;", true)
  | 1 => ("ResetRooms", "now", "LResetRooms$State;", true)
  | 2 => ("ResetRooms", "firstSlot", "LResetRooms$State;", true)
  | 3 => ("ResetRooms", "secondSlot", "LResetRooms$State;", true)
  | 4 => ("ResetRooms", "planned", "LResetRooms$Room;", true)
  | _ => ("ResetRooms", "keptSlots", "I", false)
def tyX7 : Nat → FieldType := fun k => match k with
  | 0 => .object "ResetRooms$BoxText"
  | 1 => .object "ResetRooms$State"
  | 2 => .object "ResetRooms$State"
  | 3 => .object "ResetRooms$State"
  | 4 => .object "ResetRooms$Room"
  | _ => .int
theorem nmX7 : ∀ a, a < 6 → ∀ b, b < 6 → a ≠ b → (TX7 a).2.1 ≠ (TX7 b).2.1 := by decide +kernel
theorem tyX7_ok : ∀ k, k < 6 → parseFieldDescriptor (TX7 k).2.2.1 = some (tyX7 k) := by decide +kernel
abbrev cX7_init : ByteArray := prog_1_method_1_code
def yX7_init : MethodName := ⟨RX7, "<init>", "()V"⟩
abbrev cX7_type : ByteArray := prog_1_method_2_code
def yX7_type : MethodName := ⟨RX7, "type", "(C)I"⟩
abbrev cX7_clearText : ByteArray := prog_1_method_3_code
def yX7_clearText : MethodName := ⟨RX7, "clearText", "()I"⟩
abbrev cX7_addBox : ByteArray := prog_1_method_4_code
def yX7_addBox : MethodName := ⟨RX7, "addBox", "()I"⟩
abbrev cX7_addProp : ByteArray := prog_1_method_5_code
def yX7_addProp : MethodName := ⟨RX7, "addProp", "(I)I"⟩
abbrev cX7_addClue : ByteArray := prog_1_method_6_code
def yX7_addClue : MethodName := ⟨RX7, "addClue", "(III)I"⟩
abbrev cX7_setExit : ByteArray := prog_1_method_7_code
def yX7_setExit : MethodName := ⟨RX7, "setExit", "(I)I"⟩
abbrev cX7_setLimits : ByteArray := prog_1_method_8_code
def yX7_setLimits : MethodName := ⟨RX7, "setLimits", "(II)I"⟩
abbrev cX7_addPaint : ByteArray := prog_1_method_9_code
def yX7_addPaint : MethodName := ⟨RX7, "addPaint", "(I)I"⟩
abbrev cX7_book : ByteArray := prog_1_method_10_code
def yX7_book : MethodName := ⟨RX7, "book", "(II)I"⟩
abbrev cX7_cancel : ByteArray := prog_1_method_11_code
def yX7_cancel : MethodName := ⟨RX7, "cancel", "(I)I"⟩
abbrev cX7_startGame : ByteArray := prog_1_method_12_code
def yX7_startGame : MethodName := ⟨RX7, "startGame", "()I"⟩
abbrev cX7_take : ByteArray := prog_1_method_13_code
def yX7_take : MethodName := ⟨RX7, "take", "(I)I"⟩
abbrev cX7_lay : ByteArray := prog_1_method_14_code
def yX7_lay : MethodName := ⟨RX7, "lay", "(II)I"⟩
abbrev cX7_open : ByteArray := prog_1_method_15_code
def yX7_open : MethodName := ⟨RX7, "open", "(II)I"⟩
abbrev cX7_read : ByteArray := prog_1_method_16_code
def yX7_read : MethodName := ⟨RX7, "read", "(I)I"⟩
abbrev cX7_rest : ByteArray := prog_1_method_17_code
def yX7_rest : MethodName := ⟨RX7, "rest", "(I)I"⟩
abbrev cX7_nudge : ByteArray := prog_1_method_18_code
def yX7_nudge : MethodName := ⟨RX7, "nudge", "()I"⟩
abbrev cX7_giveUp : ByteArray := prog_1_method_19_code
def yX7_giveUp : MethodName := ⟨RX7, "giveUp", "()I"⟩
abbrev cX7_idle : ByteArray := prog_1_method_20_code
def yX7_idle : MethodName := ⟨RX7, "idle", "(I)I"⟩
abbrev cX7_putHome : ByteArray := prog_1_method_21_code
def yX7_putHome : MethodName := ⟨RX7, "putHome", "(I)I"⟩
abbrev cX7_close : ByteArray := prog_1_method_22_code
def yX7_close : MethodName := ⟨RX7, "close", "(I)I"⟩
abbrev cX7_writeOver : ByteArray := prog_1_method_23_code
def yX7_writeOver : MethodName := ⟨RX7, "writeOver", "(I)I"⟩
abbrev cX7_reset : ByteArray := prog_1_method_24_code
def yX7_reset : MethodName := ⟨RX7, "reset", "()I"⟩
abbrev cX7_keep : ByteArray := prog_1_method_25_code
def yX7_keep : MethodName := ⟨RX7, "keep", "(I)I"⟩
abbrev cX7_restore : ByteArray := prog_1_method_26_code
def yX7_restore : MethodName := ⟨RX7, "restore", "(I)I"⟩
abbrev cX7_box : ByteArray := prog_1_method_27_code
def yX7_box : MethodName := ⟨RX7, "box", "(II)I"⟩
abbrev cX7_prop : ByteArray := prog_1_method_28_code
def yX7_prop : MethodName := ⟨RX7, "prop", "(II)I"⟩
abbrev cX7_clue : ByteArray := prog_1_method_29_code
def yX7_clue : MethodName := ⟨RX7, "clue", "(II)I"⟩
abbrev cX7_game : ByteArray := prog_1_method_30_code
def yX7_game : MethodName := ⟨RX7, "game", "(I)I"⟩
abbrev cX7_group : ByteArray := prog_1_method_31_code
def yX7_group : MethodName := ⟨RX7, "group", "(II)I"⟩
abbrev cX7_result : ByteArray := prog_1_method_32_code
def yX7_result : MethodName := ⟨RX7, "result", "(II)I"⟩
abbrev cX7_nextStep : ByteArray := prog_1_method_33_code
def yX7_nextStep : MethodName := ⟨RX7, "nextStep", "()I"⟩
abbrev cX7_plan : ByteArray := prog_1_method_34_code
def yX7_plan : MethodName := ⟨RX7, "plan", "(I)I"⟩
abbrev cX7_differences : ByteArray := prog_1_method_35_code
def yX7_differences : MethodName := ⟨RX7, "differences", "(I)I"⟩
abbrev cX7_logAt : ByteArray := prog_1_method_36_code
def yX7_logAt : MethodName := ⟨RX7, "logAt", "(I)I"⟩
abbrev cX7_count : ByteArray := prog_1_method_37_code
def yX7_count : MethodName := ⟨RX7, "count", "(I)I"⟩
abbrev cX7_slotState : ByteArray := prog_1_method_38_code
def yX7_slotState : MethodName := ⟨RX7, "slotState", "(I)LResetRooms$State;"⟩
abbrev cX7_isSlot : ByteArray := prog_1_method_39_code
def yX7_isSlot : MethodName := ⟨RX7, "isSlot", "(I)Z"⟩
abbrev cX7_isGroupSize : ByteArray := prog_1_method_40_code
def yX7_isGroupSize : MethodName := ⟨RX7, "isGroupSize", "(I)Z"⟩
abbrev cX7_asNumber : ByteArray := prog_1_method_41_code
def yX7_asNumber : MethodName := ⟨RX7, "asNumber", "(Z)I"⟩
abbrev cX7_actMinutes : ByteArray := prog_1_method_42_code
def yX7_actMinutes : MethodName := ⟨RX7, "actMinutes", "(II)I"⟩
abbrev cX7_toldStep : ByteArray := prog_1_method_43_code
def yX7_toldStep : MethodName := ⟨RX7, "toldStep", "(I)I"⟩
abbrev cX7_stepKind : ByteArray := prog_1_method_44_code
def yX7_stepKind : MethodName := ⟨RX7, "stepKind", "(I)I"⟩
abbrev cX7_at : ByteArray := prog_1_method_45_code
def yX7_at : MethodName := ⟨RX7, "at", "([II)I"⟩
abbrev cX7_put : ByteArray := prog_1_method_46_code
def yX7_put : MethodName := ⟨RX7, "put", "([III)V"⟩
abbrev cX7_copyRow : ByteArray := prog_1_method_47_code
def yX7_copyRow : MethodName := ⟨RX7, "copyRow", "([I[I)V"⟩
def RX8 : String := "ResetRoomsModel"
def TX8 : u_T := fun k => match k with
  | 0 => ("ResetRoomsModel", "row", "[I", true)
  | 1 => ("ResetRoomsModel", "aside", "[I", true)
  | 2 => ("ResetRoomsModel", "slots", "[I", true)
  | 3 => ("ResetRoomsModel", "isKept", "[Z", true)
  | 4 => ("ResetRoomsModel", "typed", "I", false)
  | 5 => ("ResetRoomsModel", "text", "[C", true)
  | 6 => ("ResetRoomsModel", "at", "I", false)
  | 7 => ("ResetRoomsModel", "fails", "Z", false)
  | 8 => ("ResetRoomsModel", "readOuter", "I", false)
  | 9 => ("ResetRoomsModel", "readLock", "I", false)
  | 10 => ("ResetRoomsModel", "readArgument", "I", false)
  | 11 => ("ResetRoomsModel", "toldFor", "I", false)
  | 12 => ("ResetRoomsModel", "spelt", "[I", true)
  | _ => ("ResetRoomsModel", "length", "I", false)
def tyX8 : Nat → FieldType := fun k => match k with
  | 0 => .array .int
  | 1 => .array .int
  | 2 => .array .int
  | 3 => .array .boolean
  | 4 => .int
  | 5 => .array .char
  | 6 => .int
  | 7 => .boolean
  | 8 => .int
  | 9 => .int
  | 10 => .int
  | 11 => .int
  | 12 => .array .int
  | _ => .int
theorem nmX8 : ∀ a, a < 14 → ∀ b, b < 14 → a ≠ b → (TX8 a).2.1 ≠ (TX8 b).2.1 := by decide +kernel
theorem tyX8_ok : ∀ k, k < 14 → parseFieldDescriptor (TX8 k).2.2.1 = some (tyX8 k) := by decide +kernel
abbrev cX8_init : ByteArray := prog_10_method_1_code
def yX8_init : MethodName := ⟨RX8, "<init>", "()V"⟩
abbrev cX8_in : ByteArray := prog_10_method_2_code
def yX8_in : MethodName := ⟨RX8, "in", "(III)Z"⟩
abbrev cX8_keep : ByteArray := prog_10_method_3_code
def yX8_keep : MethodName := ⟨RX8, "keep", "(I)I"⟩
abbrev cX8_restore : ByteArray := prog_10_method_4_code
def yX8_restore : MethodName := ⟨RX8, "restore", "(I)I"⟩
abbrev cX8_plays : ByteArray := prog_10_method_5_code
def yX8_plays : MethodName := ⟨RX8, "plays", "()Z"⟩
abbrev cX8_noBox : ByteArray := prog_10_method_6_code
def yX8_noBox : MethodName := ⟨RX8, "noBox", "(I)Z"⟩
abbrev cX8_noProp : ByteArray := prog_10_method_7_code
def yX8_noProp : MethodName := ⟨RX8, "noProp", "(I)Z"⟩
abbrev cX8_noClue : ByteArray := prog_10_method_8_code
def yX8_noClue : MethodName := ⟨RX8, "noClue", "(I)Z"⟩
abbrev cX8_isOpen : ByteArray := prog_10_method_9_code
def yX8_isOpen : MethodName := ⟨RX8, "isOpen", "(I)Z"⟩
abbrev cX8_closedFrom : ByteArray := prog_10_method_10_code
def yX8_closedFrom : MethodName := ⟨RX8, "closedFrom", "(I)I"⟩
abbrev cX8_closedAround : ByteArray := prog_10_method_11_code
def yX8_closedAround : MethodName := ⟨RX8, "closedAround", "(I)I"⟩
abbrev cX8_boxAtHand : ByteArray := prog_10_method_12_code
def yX8_boxAtHand : MethodName := ⟨RX8, "boxAtHand", "(I)Z"⟩
abbrev cX8_isHeld : ByteArray := prog_10_method_13_code
def yX8_isHeld : MethodName := ⟨RX8, "isHeld", "(I)Z"⟩
abbrev cX8_propAtHand : ByteArray := prog_10_method_14_code
def yX8_propAtHand : MethodName := ⟨RX8, "propAtHand", "(I)Z"⟩
abbrev cX8_clueAtHand : ByteArray := prog_10_method_15_code
def yX8_clueAtHand : MethodName := ⟨RX8, "clueAtHand", "(I)Z"⟩
abbrev cX8_held : ByteArray := prog_10_method_16_code
def yX8_held : MethodName := ⟨RX8, "held", "()I"⟩
abbrev cX8_digitOf : ByteArray := prog_10_method_17_code
def yX8_digitOf : MethodName := ⟨RX8, "digitOf", "(I)I"⟩
abbrev cX8_pass : ByteArray := prog_10_method_18_code
def yX8_pass : MethodName := ⟨RX8, "pass", "(I)V"⟩
abbrev cX8_type : ByteArray := prog_10_method_19_code
def yX8_type : MethodName := ⟨RX8, "type", "(C)I"⟩
abbrev cX8_clearText : ByteArray := prog_10_method_20_code
def yX8_clearText : MethodName := ⟨RX8, "clearText", "()I"⟩
abbrev cX8_lockLetter : ByteArray := prog_10_method_21_code
def yX8_lockLetter : MethodName := ⟨RX8, "lockLetter", "(II)I"⟩
abbrev cX8_sees : ByteArray := prog_10_method_22_code
def yX8_sees : MethodName := ⟨RX8, "sees", "()I"⟩
abbrev cX8_takes : ByteArray := prog_10_method_23_code
def yX8_takes : MethodName := ⟨RX8, "takes", "(I)V"⟩
abbrev cX8_seesDigit : ByteArray := prog_10_method_24_code
def yX8_seesDigit : MethodName := ⟨RX8, "seesDigit", "()Z"⟩
abbrev cX8_number : ByteArray := prog_10_method_25_code
def yX8_number : MethodName := ⟨RX8, "number", "(II)I"⟩
abbrev cX8_readsLock : ByteArray := prog_10_method_26_code
def yX8_readsLock : MethodName := ⟨RX8, "readsLock", "()V"⟩
abbrev cX8_faultOfText : ByteArray := prog_10_method_27_code
def yX8_faultOfText : MethodName := ⟨RX8, "faultOfText", "()I"⟩
abbrev cX8_addBox : ByteArray := prog_10_method_28_code
def yX8_addBox : MethodName := ⟨RX8, "addBox", "()I"⟩
abbrev cX8_addProp : ByteArray := prog_10_method_29_code
def yX8_addProp : MethodName := ⟨RX8, "addProp", "(I)I"⟩
abbrev cX8_addClue : ByteArray := prog_10_method_30_code
def yX8_addClue : MethodName := ⟨RX8, "addClue", "(III)I"⟩
abbrev cX8_setExit : ByteArray := prog_10_method_31_code
def yX8_setExit : MethodName := ⟨RX8, "setExit", "(I)I"⟩
abbrev cX8_setLimits : ByteArray := prog_10_method_32_code
def yX8_setLimits : MethodName := ⟨RX8, "setLimits", "(II)I"⟩
abbrev cX8_addPaint : ByteArray := prog_10_method_33_code
def yX8_addPaint : MethodName := ⟨RX8, "addPaint", "(I)I"⟩
abbrev cX8_book : ByteArray := prog_10_method_34_code
def yX8_book : MethodName := ⟨RX8, "book", "(II)I"⟩
abbrev cX8_noGroup : ByteArray := prog_10_method_35_code
def yX8_noGroup : MethodName := ⟨RX8, "noGroup", "(I)Z"⟩
abbrev cX8_removeGroup : ByteArray := prog_10_method_36_code
def yX8_removeGroup : MethodName := ⟨RX8, "removeGroup", "(I)V"⟩
abbrev cX8_cancel : ByteArray := prog_10_method_37_code
def yX8_cancel : MethodName := ⟨RX8, "cancel", "(I)I"⟩
abbrev cX8_notAtHome : ByteArray := prog_10_method_38_code
def yX8_notAtHome : MethodName := ⟨RX8, "notAtHome", "()I"⟩
abbrev cX8_openOnes : ByteArray := prog_10_method_39_code
def yX8_openOnes : MethodName := ⟨RX8, "openOnes", "()I"⟩
abbrev cX8_startGame : ByteArray := prog_10_method_40_code
def yX8_startGame : MethodName := ⟨RX8, "startGame", "()I"⟩
abbrev cX8_note : ByteArray := prog_10_method_41_code
def yX8_note : MethodName := ⟨RX8, "note", "(III)V"⟩
abbrev cX8_end : ByteArray := prog_10_method_42_code
def yX8_end : MethodName := ⟨RX8, "end", "(I)V"⟩
abbrev cX8_minutesLeft : ByteArray := prog_10_method_43_code
def yX8_minutesLeft : MethodName := ⟨RX8, "minutesLeft", "()I"⟩
abbrev cX8_lessHalf : ByteArray := prog_10_method_44_code
def yX8_lessHalf : MethodName := ⟨RX8, "lessHalf", "(I)I"⟩
abbrev cX8_readMinutes : ByteArray := prog_10_method_45_code
def yX8_readMinutes : MethodName := ⟨RX8, "readMinutes", "(I)I"⟩
abbrev cX8_isOver : ByteArray := prog_10_method_46_code
def yX8_isOver : MethodName := ⟨RX8, "isOver", "(I)Z"⟩
abbrev cX8_take : ByteArray := prog_10_method_47_code
def yX8_take : MethodName := ⟨RX8, "take", "(I)I"⟩
abbrev cX8_lay : ByteArray := prog_10_method_48_code
def yX8_lay : MethodName := ⟨RX8, "lay", "(II)I"⟩
abbrev cX8_lets : ByteArray := prog_10_method_49_code
def yX8_lets : MethodName := ⟨RX8, "lets", "(I)Z"⟩
abbrev cX8_open : ByteArray := prog_10_method_50_code
def yX8_open : MethodName := ⟨RX8, "open", "(II)I"⟩
abbrev cX8_learn : ByteArray := prog_10_method_51_code
def yX8_learn : MethodName := ⟨RX8, "learn", "(I)V"⟩
abbrev cX8_read : ByteArray := prog_10_method_52_code
def yX8_read : MethodName := ⟨RX8, "read", "(I)I"⟩
abbrev cX8_rest : ByteArray := prog_10_method_53_code
def yX8_rest : MethodName := ⟨RX8, "rest", "(I)I"⟩
abbrev cX8_clueFor : ByteArray := prog_10_method_54_code
def yX8_clueFor : MethodName := ⟨RX8, "clueFor", "(IIZ)I"⟩
abbrev cX8_lowestUnknown : ByteArray := prog_10_method_55_code
def yX8_lowestUnknown : MethodName := ⟨RX8, "lowestUnknown", "(I)I"⟩
abbrev cX8_lowestHeld : ByteArray := prog_10_method_56_code
def yX8_lowestHeld : MethodName := ⟨RX8, "lowestHeld", "()I"⟩
abbrev cX8_stepToHold : ByteArray := prog_10_method_57_code
def yX8_stepToHold : MethodName := ⟨RX8, "stepToHold", "(I)I"⟩
abbrev cX8_stepFor : ByteArray := prog_10_method_58_code
def yX8_stepFor : MethodName := ⟨RX8, "stepFor", "(I)I"⟩
abbrev cX8_step : ByteArray := prog_10_method_59_code
def yX8_step : MethodName := ⟨RX8, "step", "()I"⟩
abbrev cX8_nextStep : ByteArray := prog_10_method_60_code
def yX8_nextStep : MethodName := ⟨RX8, "nextStep", "()I"⟩
abbrev cX8_nudge : ByteArray := prog_10_method_61_code
def yX8_nudge : MethodName := ⟨RX8, "nudge", "()I"⟩
abbrev cX8_giveUp : ByteArray := prog_10_method_62_code
def yX8_giveUp : MethodName := ⟨RX8, "giveUp", "()I"⟩
abbrev cX8_planned : ByteArray := prog_10_method_63_code
def yX8_planned : MethodName := ⟨RX8, "planned", "(I)I"⟩
abbrev cX8_plan : ByteArray := prog_10_method_64_code
def yX8_plan : MethodName := ⟨RX8, "plan", "(I)I"⟩
abbrev cX8_idle : ByteArray := prog_10_method_65_code
def yX8_idle : MethodName := ⟨RX8, "idle", "(I)I"⟩
abbrev cX8_putHome : ByteArray := prog_10_method_66_code
def yX8_putHome : MethodName := ⟨RX8, "putHome", "(I)I"⟩
abbrev cX8_close : ByteArray := prog_10_method_67_code
def yX8_close : MethodName := ⟨RX8, "close", "(I)I"⟩
abbrev cX8_writeOver : ByteArray := prog_10_method_68_code
def yX8_writeOver : MethodName := ⟨RX8, "writeOver", "(I)I"⟩
abbrev cX8_written : ByteArray := prog_10_method_69_code
def yX8_written : MethodName := ⟨RX8, "written", "(ZZ)I"⟩
abbrev cX8_resetMinutes : ByteArray := prog_10_method_70_code
def yX8_resetMinutes : MethodName := ⟨RX8, "resetMinutes", "()I"⟩
abbrev cX8_reset : ByteArray := prog_10_method_71_code
def yX8_reset : MethodName := ⟨RX8, "reset", "()I"⟩
abbrev cX8_propsIn : ByteArray := prog_10_method_72_code
def yX8_propsIn : MethodName := ⟨RX8, "propsIn", "(I)I"⟩
abbrev cX8_boxesIn : ByteArray := prog_10_method_73_code
def yX8_boxesIn : MethodName := ⟨RX8, "boxesIn", "(I)I"⟩
abbrev cX8_box : ByteArray := prog_10_method_74_code
def yX8_box : MethodName := ⟨RX8, "box", "(II)I"⟩
abbrev cX8_cluesOn : ByteArray := prog_10_method_75_code
def yX8_cluesOn : MethodName := ⟨RX8, "cluesOn", "(I)I"⟩
abbrev cX8_locksWith : ByteArray := prog_10_method_76_code
def yX8_locksWith : MethodName := ⟨RX8, "locksWith", "(I)I"⟩
abbrev cX8_prop : ByteArray := prog_10_method_77_code
def yX8_prop : MethodName := ⟨RX8, "prop", "(II)I"⟩
abbrev cX8_clue : ByteArray := prog_10_method_78_code
def yX8_clue : MethodName := ⟨RX8, "clue", "(II)I"⟩
abbrev cX8_heldSet : ByteArray := prog_10_method_79_code
def yX8_heldSet : MethodName := ⟨RX8, "heldSet", "()I"⟩
abbrev cX8_game : ByteArray := prog_10_method_80_code
def yX8_game : MethodName := ⟨RX8, "game", "(I)I"⟩
abbrev cX8_startOf : ByteArray := prog_10_method_81_code
def yX8_startOf : MethodName := ⟨RX8, "startOf", "(I)I"⟩
abbrev cX8_group : ByteArray := prog_10_method_82_code
def yX8_group : MethodName := ⟨RX8, "group", "(II)I"⟩
abbrev cX8_result : ByteArray := prog_10_method_83_code
def yX8_result : MethodName := ⟨RX8, "result", "(II)I"⟩
abbrev cX8_faded : ByteArray := prog_10_method_84_code
def yX8_faded : MethodName := ⟨RX8, "faded", "()I"⟩
abbrev cX8_differences : ByteArray := prog_10_method_85_code
def yX8_differences : MethodName := ⟨RX8, "differences", "(I)I"⟩
abbrev cX8_wordLetter : ByteArray := prog_10_method_86_code
def yX8_wordLetter : MethodName := ⟨RX8, "wordLetter", "(II)I"⟩
abbrev cX8_lettersOf : ByteArray := prog_10_method_87_code
def yX8_lettersOf : MethodName := ⟨RX8, "lettersOf", "(I)I"⟩
abbrev cX8_argumentsOf : ByteArray := prog_10_method_88_code
def yX8_argumentsOf : MethodName := ⟨RX8, "argumentsOf", "(I)I"⟩
abbrev cX8_put : ByteArray := prog_10_method_89_code
def yX8_put : MethodName := ⟨RX8, "put", "(I)V"⟩
abbrev cX8_putNumber : ByteArray := prog_10_method_90_code
def yX8_putNumber : MethodName := ⟨RX8, "putNumber", "(I)V"⟩
abbrev cX8_spell : ByteArray := prog_10_method_91_code
def yX8_spell : MethodName := ⟨RX8, "spell", "(I)V"⟩
abbrev cX8_logAt : ByteArray := prog_10_method_92_code
def yX8_logAt : MethodName := ⟨RX8, "logAt", "(I)I"⟩
abbrev cX8_logLength : ByteArray := prog_10_method_93_code
def yX8_logLength : MethodName := ⟨RX8, "logLength", "()I"⟩
abbrev cX8_behind : ByteArray := prog_10_method_94_code
def yX8_behind : MethodName := ⟨RX8, "behind", "()I"⟩
abbrev cX8_wins : ByteArray := prog_10_method_95_code
def yX8_wins : MethodName := ⟨RX8, "wins", "()I"⟩
abbrev cX8_count : ByteArray := prog_10_method_96_code
def yX8_count : MethodName := ⟨RX8, "count", "(I)I"⟩
def RJ6 : String := "java/lang/Integer"
abbrev cJ6_bitCount_0f7a4 : ByteArray := prog_11_method_49_code
def yJ6_bitCount_0f7a4 : MethodName := ⟨RJ6, "bitCount", "(I)I"⟩
def RJ9 : String := "java/lang/Math"
abbrev cJ9_max_7cf53 : ByteArray := prog_12_method_65_code
def yJ9_max_7cf53 : MethodName := ⟨RJ9, "max", "(II)I"⟩
def RJ0 : String := "java/lang/String"
abbrev cJ0_length_8abf5 : ByteArray := prog_13_method_54_code
def yJ0_length_8abf5 : MethodName := ⟨RJ0, "length", "()I"⟩
abbrev cJ0_charAt_5068e : ByteArray := prog_13_method_56_code
def yJ0_charAt_5068e : MethodName := ⟨RJ0, "charAt", "(I)C"⟩
abbrev cJ0_coder_7d493 : ByteArray := prog_13_method_152_code
def yJ0_coder_7d493 : MethodName := ⟨RJ0, "coder", "()B"⟩
abbrev cJ0_isLatin1_aae02 : ByteArray := prog_13_method_154_code
def yJ0_isLatin1_aae02 : MethodName := ⟨RJ0, "isLatin1", "()Z"⟩
abbrev cJ0_checkIndex_df160 : ByteArray := prog_13_method_155_code
def yJ0_checkIndex_df160 : MethodName := ⟨RJ0, "checkIndex", "(II)V"⟩
def RJ1 : String := "java/lang/StringLatin1"
abbrev cJ1_charAt_3b067 : ByteArray := prog_14_method_2_code
def yJ1_charAt_3b067 : MethodName := ⟨RJ1, "charAt", "([BI)C"⟩
def RJ2 : String := "java/lang/StringUTF16"
abbrev cJ2_getChar_3b067 : ByteArray := prog_15_method_5_code
def yJ2_getChar_3b067 : MethodName := ⟨RJ2, "getChar", "([BI)C"⟩
abbrev cJ2_length_9d52b : ByteArray := prog_15_method_6_code
def yJ2_length_9d52b : MethodName := ⟨RJ2, "length", "([B)I"⟩
abbrev cJ2_charAt_3b067 : ByteArray := prog_15_method_83_code
def yJ2_charAt_3b067 : MethodName := ⟨RJ2, "charAt", "([BI)C"⟩
abbrev cJ2_checkIndex_2214a : ByteArray := prog_15_method_91_code
def yJ2_checkIndex_2214a : MethodName := ⟨RJ2, "checkIndex", "(I[B)V"⟩
def RJ3 : String := "jdk/internal/util/Preconditions"
abbrev cJ3_checkIndex_8e157 : ByteArray := prog_16_method_11_code
def yJ3_checkIndex_8e157 : MethodName := ⟨RJ3, "checkIndex", "(IILjava/util/function/BiFunction;)I"⟩
def RL : String := "ResetRoomsLaw"
abbrev cL_law : ByteArray := code
abbrev vwCl : List vw_C := [(RX0, TX0, 7), (RX1, TX1, 7), (RX2, TX2, 2), (RX3, TX3, 3), (RX4, TX4, 2), (RX5, TX5, 16), (RX6, TX6, 9), (RX7, TX7, 6), (RX8, TX8, 14)]
end
section
theorem dX0_init_0 : decode cX0_init 0 = .ok (.aload_n 0, 1) := by decide +kernel
theorem dX0_init_1 : decode cX0_init 1 = .ok (.invokespecial 3, 3) := by decide +kernel
theorem dX0_init_4 : decode cX0_init 4 = .ok (.aload_n 0, 1) := by decide +kernel
theorem dX0_init_5 : decode cX0_init 5 = .ok (.bipush 20, 2) := by decide +kernel
theorem dX0_init_7 : decode cX0_init 7 = .ok (.newarray .int, 2) := by decide +kernel
theorem dX0_init_9 : decode cX0_init 9 = .ok (.putfield 9, 3) := by decide +kernel
theorem dX0_init_12 : decode cX0_init 12 = .ok (.return_, 1) := by decide +kernel
theorem dX0_findFault_0 : decode cX0_findFault 0 = .ok (.aload_n 0, 1) := by decide +kernel
theorem dX0_findFault_1 : decode cX0_findFault 1 = .ok (.iconst 0, 1) := by decide +kernel
theorem dX0_findFault_2 : decode cX0_findFault 2 = .ok (.putfield 15, 3) := by decide +kernel
theorem dX0_findFault_5 : decode cX0_findFault 5 = .ok (.aload_n 0, 1) := by decide +kernel
theorem dX0_findFault_6 : decode cX0_findFault 6 = .ok (.iconst 1, 1) := by decide +kernel
theorem dX0_findFault_7 : decode cX0_findFault 7 = .ok (.iconst 2, 1) := by decide +kernel
theorem dX0_findFault_8 : decode cX0_findFault 8 = .ok (.invokevirtual 19, 3) := by decide +kernel
theorem dX0_findFault_11 : decode cX0_findFault 11 = .ok (.ifCond .ne 8, 3) := by decide +kernel
theorem dX0_findFault_14 : decode cX0_findFault 14 = .ok (.aload_n 0, 1) := by decide +kernel
theorem dX0_findFault_15 : decode cX0_findFault 15 = .ok (.getfield 15, 3) := by decide +kernel
theorem dX0_findFault_18 : decode cX0_findFault 18 = .ok (.ireturn, 1) := by decide +kernel
theorem dX0_findFault_19 : decode cX0_findFault 19 = .ok (.aload_n 0, 1) := by decide +kernel
theorem dX0_findFault_20 : decode cX0_findFault 20 = .ok (.aload_n 0, 1) := by decide +kernel
theorem dX0_findFault_21 : decode cX0_findFault 21 = .ok (.getfield 23, 3) := by decide +kernel
theorem dX0_findFault_24 : decode cX0_findFault 24 = .ok (.putfield 26, 3) := by decide +kernel
theorem dX0_findFault_27 : decode cX0_findFault 27 = .ok (.aload_n 0, 1) := by decide +kernel
theorem dX0_findFault_28 : decode cX0_findFault 28 = .ok (.iconst 0, 1) := by decide +kernel
theorem dX0_findFault_29 : decode cX0_findFault 29 = .ok (.putfield 23, 3) := by decide +kernel
theorem dX0_findFault_32 : decode cX0_findFault 32 = .ok (.aload_n 0, 1) := by decide +kernel
theorem dX0_findFault_33 : decode cX0_findFault 33 = .ok (.ldc 29, 2) := by decide +kernel
theorem dX0_findFault_35 : decode cX0_findFault 35 = .ok (.invokevirtual 31, 3) := by decide +kernel
theorem dX0_findFault_38 : decode cX0_findFault 38 = .ok (.ifCond .eq 21, 3) := by decide +kernel
theorem dX0_findFault_41 : decode cX0_findFault 41 = .ok (.aload_n 0, 1) := by decide +kernel
theorem dX0_findFault_42 : decode cX0_findFault 42 = .ok (.invokevirtual 35, 3) := by decide +kernel
theorem dX0_findFault_45 : decode cX0_findFault 45 = .ok (.ifCond .eq 14, 3) := by decide +kernel
theorem dX0_findFault_48 : decode cX0_findFault 48 = .ok (.aload_n 0, 1) := by decide +kernel
theorem dX0_findFault_49 : decode cX0_findFault 49 = .ok (.getfield 15, 3) := by decide +kernel
theorem dX0_findFault_52 : decode cX0_findFault 52 = .ok (.aload_n 0, 1) := by decide +kernel
theorem dX0_findFault_53 : decode cX0_findFault 53 = .ok (.getfield 39, 3) := by decide +kernel
theorem dX0_findFault_56 : decode cX0_findFault 56 = .ok (.if_icmp .eq 8, 3) := by decide +kernel
theorem dX0_findFault_59 : decode cX0_findFault 59 = .ok (.aload_n 0, 1) := by decide +kernel
theorem dX0_findFault_60 : decode cX0_findFault 60 = .ok (.getfield 15, 3) := by decide +kernel
theorem dX0_findFault_63 : decode cX0_findFault 63 = .ok (.ireturn, 1) := by decide +kernel
theorem dX0_findFault_64 : decode cX0_findFault 64 = .ok (.aload_n 0, 1) := by decide +kernel
theorem dX0_findFault_65 : decode cX0_findFault 65 = .ok (.aload_n 0, 1) := by decide +kernel
theorem dX0_findFault_66 : decode cX0_findFault 66 = .ok (.getfield 23, 3) := by decide +kernel
theorem dX0_findFault_69 : decode cX0_findFault 69 = .ok (.putfield 42, 3) := by decide +kernel
theorem dX0_findFault_72 : decode cX0_findFault 72 = .ok (.iconst (-1), 1) := by decide +kernel
theorem dX0_findFault_73 : decode cX0_findFault 73 = .ok (.ireturn, 1) := by decide +kernel
theorem dX0_matchesLock_0 : decode cX0_matchesLock 0 = .ok (.aload_n 0, 1) := by decide +kernel
theorem dX0_matchesLock_1 : decode cX0_matchesLock 1 = .ok (.invokevirtual 45, 3) := by decide +kernel
theorem dX0_matchesLock_4 : decode cX0_matchesLock 4 = .ok (.lookupswitch 143 #[(99, 85), (107, 56), (108, 44), (112, 114)], 44) := by decide +kernel
theorem dX0_matchesLock_48 : decode cX0_matchesLock 48 = .ok (.aload_n 0, 1) := by decide +kernel
theorem dX0_matchesLock_49 : decode cX0_matchesLock 49 = .ok (.iconst 0, 1) := by decide +kernel
theorem dX0_matchesLock_50 : decode cX0_matchesLock 50 = .ok (.putfield 49, 3) := by decide +kernel
theorem dX0_matchesLock_53 : decode cX0_matchesLock 53 = .ok (.aload_n 0, 1) := by decide +kernel
theorem dX0_matchesLock_54 : decode cX0_matchesLock 54 = .ok (.ldc 52, 2) := by decide +kernel
theorem dX0_matchesLock_56 : decode cX0_matchesLock 56 = .ok (.invokevirtual 31, 3) := by decide +kernel
theorem dX0_matchesLock_59 : decode cX0_matchesLock 59 = .ok (.ireturn, 1) := by decide +kernel
theorem dX0_matchesLock_60 : decode cX0_matchesLock 60 = .ok (.aload_n 0, 1) := by decide +kernel
theorem dX0_matchesLock_61 : decode cX0_matchesLock 61 = .ok (.iconst 1, 1) := by decide +kernel
theorem dX0_matchesLock_62 : decode cX0_matchesLock 62 = .ok (.putfield 49, 3) := by decide +kernel
theorem dX0_matchesLock_65 : decode cX0_matchesLock 65 = .ok (.aload_n 0, 1) := by decide +kernel
theorem dX0_matchesLock_66 : decode cX0_matchesLock 66 = .ok (.ldc 54, 2) := by decide +kernel
theorem dX0_matchesLock_68 : decode cX0_matchesLock 68 = .ok (.invokevirtual 31, 3) := by decide +kernel
theorem dX0_matchesLock_71 : decode cX0_matchesLock 71 = .ok (.ifCond .eq 16, 3) := by decide +kernel
theorem dX0_matchesLock_74 : decode cX0_matchesLock 74 = .ok (.aload_n 0, 1) := by decide +kernel
theorem dX0_matchesLock_75 : decode cX0_matchesLock 75 = .ok (.iconst 1, 1) := by decide +kernel
theorem dX0_matchesLock_76 : decode cX0_matchesLock 76 = .ok (.iconst 2, 1) := by decide +kernel
theorem dX0_matchesLock_77 : decode cX0_matchesLock 77 = .ok (.invokevirtual 19, 3) := by decide +kernel
theorem dX0_matchesLock_80 : decode cX0_matchesLock 80 = .ok (.ifCond .eq 7, 3) := by decide +kernel
theorem dX0_matchesLock_83 : decode cX0_matchesLock 83 = .ok (.iconst 1, 1) := by decide +kernel
theorem dX0_matchesLock_84 : decode cX0_matchesLock 84 = .ok (.goto 4, 3) := by decide +kernel
theorem dX0_matchesLock_87 : decode cX0_matchesLock 87 = .ok (.iconst 0, 1) := by decide +kernel
theorem dX0_matchesLock_88 : decode cX0_matchesLock 88 = .ok (.ireturn, 1) := by decide +kernel
theorem dX0_matchesLock_89 : decode cX0_matchesLock 89 = .ok (.aload_n 0, 1) := by decide +kernel
theorem dX0_matchesLock_90 : decode cX0_matchesLock 90 = .ok (.iconst 2, 1) := by decide +kernel
theorem dX0_matchesLock_91 : decode cX0_matchesLock 91 = .ok (.putfield 49, 3) := by decide +kernel
theorem dX0_matchesLock_94 : decode cX0_matchesLock 94 = .ok (.aload_n 0, 1) := by decide +kernel
theorem dX0_matchesLock_95 : decode cX0_matchesLock 95 = .ok (.ldc 56, 2) := by decide +kernel
theorem dX0_matchesLock_97 : decode cX0_matchesLock 97 = .ok (.invokevirtual 31, 3) := by decide +kernel
theorem dX0_matchesLock_100 : decode cX0_matchesLock 100 = .ok (.ifCond .eq 16, 3) := by decide +kernel
theorem dX0_matchesLock_103 : decode cX0_matchesLock 103 = .ok (.aload_n 0, 1) := by decide +kernel
theorem dX0_matchesLock_104 : decode cX0_matchesLock 104 = .ok (.iconst 4, 1) := by decide +kernel
theorem dX0_matchesLock_105 : decode cX0_matchesLock 105 = .ok (.iconst 4, 1) := by decide +kernel
theorem dX0_matchesLock_106 : decode cX0_matchesLock 106 = .ok (.invokevirtual 19, 3) := by decide +kernel
theorem dX0_matchesLock_109 : decode cX0_matchesLock 109 = .ok (.ifCond .eq 7, 3) := by decide +kernel
theorem dX0_matchesLock_112 : decode cX0_matchesLock 112 = .ok (.iconst 1, 1) := by decide +kernel
theorem dX0_matchesLock_113 : decode cX0_matchesLock 113 = .ok (.goto 4, 3) := by decide +kernel
theorem dX0_matchesLock_116 : decode cX0_matchesLock 116 = .ok (.iconst 0, 1) := by decide +kernel
theorem dX0_matchesLock_117 : decode cX0_matchesLock 117 = .ok (.ireturn, 1) := by decide +kernel
theorem dX0_matchesLock_118 : decode cX0_matchesLock 118 = .ok (.aload_n 0, 1) := by decide +kernel
theorem dX0_matchesLock_119 : decode cX0_matchesLock 119 = .ok (.iconst 3, 1) := by decide +kernel
theorem dX0_matchesLock_120 : decode cX0_matchesLock 120 = .ok (.putfield 49, 3) := by decide +kernel
theorem dX0_matchesLock_123 : decode cX0_matchesLock 123 = .ok (.aload_n 0, 1) := by decide +kernel
theorem dX0_matchesLock_124 : decode cX0_matchesLock 124 = .ok (.ldc 58, 2) := by decide +kernel
theorem dX0_matchesLock_126 : decode cX0_matchesLock 126 = .ok (.invokevirtual 31, 3) := by decide +kernel
theorem dX0_matchesLock_129 : decode cX0_matchesLock 129 = .ok (.ifCond .eq 16, 3) := by decide +kernel
theorem dX0_matchesLock_132 : decode cX0_matchesLock 132 = .ok (.aload_n 0, 1) := by decide +kernel
theorem dX0_matchesLock_133 : decode cX0_matchesLock 133 = .ok (.iconst 1, 1) := by decide +kernel
theorem dX0_matchesLock_134 : decode cX0_matchesLock 134 = .ok (.iconst 2, 1) := by decide +kernel
theorem dX0_matchesLock_135 : decode cX0_matchesLock 135 = .ok (.invokevirtual 19, 3) := by decide +kernel
theorem dX0_matchesLock_138 : decode cX0_matchesLock 138 = .ok (.ifCond .eq 7, 3) := by decide +kernel
theorem dX0_matchesLock_141 : decode cX0_matchesLock 141 = .ok (.iconst 1, 1) := by decide +kernel
theorem dX0_matchesLock_142 : decode cX0_matchesLock 142 = .ok (.goto 4, 3) := by decide +kernel
theorem dX0_matchesLock_145 : decode cX0_matchesLock 145 = .ok (.iconst 0, 1) := by decide +kernel
theorem dX0_matchesLock_146 : decode cX0_matchesLock 146 = .ok (.ireturn, 1) := by decide +kernel
theorem dX0_matchesLock_147 : decode cX0_matchesLock 147 = .ok (.iconst 0, 1) := by decide +kernel
theorem dX0_matchesLock_148 : decode cX0_matchesLock 148 = .ok (.ireturn, 1) := by decide +kernel
theorem dX0_matchesDigits_0 : decode cX0_matchesDigits 0 = .ok (.aload_n 0, 1) := by decide +kernel
theorem dX0_matchesDigits_1 : decode cX0_matchesDigits 1 = .ok (.iconst 0, 1) := by decide +kernel
theorem dX0_matchesDigits_2 : decode cX0_matchesDigits 2 = .ok (.putfield 23, 3) := by decide +kernel
theorem dX0_matchesDigits_5 : decode cX0_matchesDigits 5 = .ok (.iconst 0, 1) := by decide +kernel
theorem dX0_matchesDigits_6 : decode cX0_matchesDigits 6 = .ok (.istore_n 3, 1) := by decide +kernel
theorem dX0_matchesDigits_7 : decode cX0_matchesDigits 7 = .ok (.iload_n 3, 1) := by decide +kernel
theorem dX0_matchesDigits_8 : decode cX0_matchesDigits 8 = .ok (.iload_n 2, 1) := by decide +kernel
theorem dX0_matchesDigits_9 : decode cX0_matchesDigits 9 = .ok (.if_icmp .ge 45, 3) := by decide +kernel
theorem dX0_matchesDigits_12 : decode cX0_matchesDigits 12 = .ok (.aload_n 0, 1) := by decide +kernel
theorem dX0_matchesDigits_13 : decode cX0_matchesDigits 13 = .ok (.invokevirtual 60, 3) := by decide +kernel
theorem dX0_matchesDigits_16 : decode cX0_matchesDigits 16 = .ok (.ifCond .eq 38, 3) := by decide +kernel
theorem dX0_matchesDigits_19 : decode cX0_matchesDigits 19 = .ok (.aload_n 0, 1) := by decide +kernel
theorem dX0_matchesDigits_20 : decode cX0_matchesDigits 20 = .ok (.aload_n 0, 1) := by decide +kernel
theorem dX0_matchesDigits_21 : decode cX0_matchesDigits 21 = .ok (.getfield 23, 3) := by decide +kernel
theorem dX0_matchesDigits_24 : decode cX0_matchesDigits 24 = .ok (.bipush 10, 2) := by decide +kernel
theorem dX0_matchesDigits_26 : decode cX0_matchesDigits 26 = .ok (.imul, 1) := by decide +kernel
theorem dX0_matchesDigits_27 : decode cX0_matchesDigits 27 = .ok (.aload_n 0, 1) := by decide +kernel
theorem dX0_matchesDigits_28 : decode cX0_matchesDigits 28 = .ok (.invokevirtual 45, 3) := by decide +kernel
theorem dX0_matchesDigits_31 : decode cX0_matchesDigits 31 = .ok (.iadd, 1) := by decide +kernel
theorem dX0_matchesDigits_32 : decode cX0_matchesDigits 32 = .ok (.bipush 48, 2) := by decide +kernel
theorem dX0_matchesDigits_34 : decode cX0_matchesDigits 34 = .ok (.isub, 1) := by decide +kernel
theorem dX0_matchesDigits_35 : decode cX0_matchesDigits 35 = .ok (.putfield 23, 3) := by decide +kernel
theorem dX0_matchesDigits_38 : decode cX0_matchesDigits 38 = .ok (.aload_n 0, 1) := by decide +kernel
theorem dX0_matchesDigits_39 : decode cX0_matchesDigits 39 = .ok (.dup, 1) := by decide +kernel
theorem dX0_matchesDigits_40 : decode cX0_matchesDigits 40 = .ok (.getfield 15, 3) := by decide +kernel
theorem dX0_matchesDigits_43 : decode cX0_matchesDigits 43 = .ok (.iconst 1, 1) := by decide +kernel
theorem dX0_matchesDigits_44 : decode cX0_matchesDigits 44 = .ok (.iadd, 1) := by decide +kernel
theorem dX0_matchesDigits_45 : decode cX0_matchesDigits 45 = .ok (.putfield 15, 3) := by decide +kernel
theorem dX0_matchesDigits_48 : decode cX0_matchesDigits 48 = .ok (.iinc 3 1, 3) := by decide +kernel
theorem dX0_matchesDigits_51 : decode cX0_matchesDigits 51 = .ok (.goto (-44), 3) := by decide +kernel
theorem dX0_matchesDigits_54 : decode cX0_matchesDigits 54 = .ok (.iload_n 3, 1) := by decide +kernel
theorem dX0_matchesDigits_55 : decode cX0_matchesDigits 55 = .ok (.iload_n 1, 1) := by decide +kernel
theorem dX0_matchesDigits_56 : decode cX0_matchesDigits 56 = .ok (.if_icmp .lt 7, 3) := by decide +kernel
theorem dX0_matchesDigits_59 : decode cX0_matchesDigits 59 = .ok (.iconst 1, 1) := by decide +kernel
theorem dX0_matchesDigits_60 : decode cX0_matchesDigits 60 = .ok (.goto 4, 3) := by decide +kernel
theorem dX0_matchesDigits_63 : decode cX0_matchesDigits 63 = .ok (.iconst 0, 1) := by decide +kernel
theorem dX0_matchesDigits_64 : decode cX0_matchesDigits 64 = .ok (.ireturn, 1) := by decide +kernel
theorem dX0_matchesWord_0 : decode cX0_matchesWord 0 = .ok (.iconst 0, 1) := by decide +kernel
theorem dX0_matchesWord_1 : decode cX0_matchesWord 1 = .ok (.istore_n 2, 1) := by decide +kernel
theorem dX0_matchesWord_2 : decode cX0_matchesWord 2 = .ok (.iload_n 2, 1) := by decide +kernel
theorem dX0_matchesWord_3 : decode cX0_matchesWord 3 = .ok (.aload_n 1, 1) := by decide +kernel
theorem dX0_matchesWord_4 : decode cX0_matchesWord 4 = .ok (.invokevirtual 63, 3) := by decide +kernel
theorem dX0_matchesWord_7 : decode cX0_matchesWord 7 = .ok (.if_icmp .ge 33, 3) := by decide +kernel
theorem dX0_matchesWord_10 : decode cX0_matchesWord 10 = .ok (.aload_n 0, 1) := by decide +kernel
theorem dX0_matchesWord_11 : decode cX0_matchesWord 11 = .ok (.invokevirtual 45, 3) := by decide +kernel
theorem dX0_matchesWord_14 : decode cX0_matchesWord 14 = .ok (.aload_n 1, 1) := by decide +kernel
theorem dX0_matchesWord_15 : decode cX0_matchesWord 15 = .ok (.iload_n 2, 1) := by decide +kernel
theorem dX0_matchesWord_16 : decode cX0_matchesWord 16 = .ok (.invokevirtual 67, 3) := by decide +kernel
theorem dX0_matchesWord_19 : decode cX0_matchesWord 19 = .ok (.if_icmp .eq 5, 3) := by decide +kernel
theorem dX0_matchesWord_22 : decode cX0_matchesWord 22 = .ok (.iconst 0, 1) := by decide +kernel
theorem dX0_matchesWord_23 : decode cX0_matchesWord 23 = .ok (.ireturn, 1) := by decide +kernel
theorem dX0_matchesWord_24 : decode cX0_matchesWord 24 = .ok (.aload_n 0, 1) := by decide +kernel
theorem dX0_matchesWord_25 : decode cX0_matchesWord 25 = .ok (.dup, 1) := by decide +kernel
theorem dX0_matchesWord_26 : decode cX0_matchesWord 26 = .ok (.getfield 15, 3) := by decide +kernel
theorem dX0_matchesWord_29 : decode cX0_matchesWord 29 = .ok (.iconst 1, 1) := by decide +kernel
theorem dX0_matchesWord_30 : decode cX0_matchesWord 30 = .ok (.iadd, 1) := by decide +kernel
theorem dX0_matchesWord_31 : decode cX0_matchesWord 31 = .ok (.putfield 15, 3) := by decide +kernel
theorem dX0_matchesWord_34 : decode cX0_matchesWord 34 = .ok (.iinc 2 1, 3) := by decide +kernel
theorem dX0_matchesWord_37 : decode cX0_matchesWord 37 = .ok (.goto (-35), 3) := by decide +kernel
theorem dX0_matchesWord_40 : decode cX0_matchesWord 40 = .ok (.iconst 1, 1) := by decide +kernel
theorem dX0_matchesWord_41 : decode cX0_matchesWord 41 = .ok (.ireturn, 1) := by decide +kernel
theorem dX0_digitHere_0 : decode cX0_digitHere 0 = .ok (.aload_n 0, 1) := by decide +kernel
theorem dX0_digitHere_1 : decode cX0_digitHere 1 = .ok (.invokevirtual 45, 3) := by decide +kernel
theorem dX0_digitHere_4 : decode cX0_digitHere 4 = .ok (.bipush 48, 2) := by decide +kernel
theorem dX0_digitHere_6 : decode cX0_digitHere 6 = .ok (.if_icmp .lt 16, 3) := by decide +kernel
theorem dX0_digitHere_9 : decode cX0_digitHere 9 = .ok (.aload_n 0, 1) := by decide +kernel
theorem dX0_digitHere_10 : decode cX0_digitHere 10 = .ok (.invokevirtual 45, 3) := by decide +kernel
theorem dX0_digitHere_13 : decode cX0_digitHere 13 = .ok (.bipush 57, 2) := by decide +kernel
theorem dX0_digitHere_15 : decode cX0_digitHere 15 = .ok (.if_icmp .gt 7, 3) := by decide +kernel
theorem dX0_digitHere_18 : decode cX0_digitHere 18 = .ok (.iconst 1, 1) := by decide +kernel
theorem dX0_digitHere_19 : decode cX0_digitHere 19 = .ok (.goto 4, 3) := by decide +kernel
theorem dX0_digitHere_22 : decode cX0_digitHere 22 = .ok (.iconst 0, 1) := by decide +kernel
theorem dX0_digitHere_23 : decode cX0_digitHere 23 = .ok (.ireturn, 1) := by decide +kernel
theorem dX0_signHere_0 : decode cX0_signHere 0 = .ok (.aload_n 0, 1) := by decide +kernel
theorem dX0_signHere_1 : decode cX0_signHere 1 = .ok (.getfield 15, 3) := by decide +kernel
theorem dX0_signHere_4 : decode cX0_signHere 4 = .ok (.aload_n 0, 1) := by decide +kernel
theorem dX0_signHere_5 : decode cX0_signHere 5 = .ok (.getfield 39, 3) := by decide +kernel
theorem dX0_signHere_8 : decode cX0_signHere 8 = .ok (.if_icmp .ge 17, 3) := by decide +kernel
theorem dX0_signHere_11 : decode cX0_signHere 11 = .ok (.aload_n 0, 1) := by decide +kernel
theorem dX0_signHere_12 : decode cX0_signHere 12 = .ok (.getfield 9, 3) := by decide +kernel
theorem dX0_signHere_15 : decode cX0_signHere 15 = .ok (.aload_n 0, 1) := by decide +kernel
theorem dX0_signHere_16 : decode cX0_signHere 16 = .ok (.getfield 15, 3) := by decide +kernel
theorem dX0_signHere_19 : decode cX0_signHere 19 = .ok (.invokestatic 71, 3) := by decide +kernel
theorem dX0_signHere_22 : decode cX0_signHere 22 = .ok (.goto 4, 3) := by decide +kernel
theorem dX0_signHere_25 : decode cX0_signHere 25 = .ok (.iconst (-1), 1) := by decide +kernel
theorem dX0_signHere_26 : decode cX0_signHere 26 = .ok (.ireturn, 1) := by decide +kernel
end
section
theorem dX1_init_0 : decode cX1_init 0 = .ok (.aload_n 0, 1) := by decide +kernel
theorem dX1_init_1 : decode cX1_init 1 = .ok (.invokespecial 1, 3) := by decide +kernel
theorem dX1_init_4 : decode cX1_init 4 = .ok (.return_, 1) := by decide +kernel
theorem dX1_copyFrom_0 : decode cX1_copyFrom 0 = .ok (.aload_n 0, 1) := by decide +kernel
theorem dX1_copyFrom_1 : decode cX1_copyFrom 1 = .ok (.aload_n 1, 1) := by decide +kernel
theorem dX1_copyFrom_2 : decode cX1_copyFrom 2 = .ok (.getfield 7, 3) := by decide +kernel
theorem dX1_copyFrom_5 : decode cX1_copyFrom 5 = .ok (.putfield 7, 3) := by decide +kernel
theorem dX1_copyFrom_8 : decode cX1_copyFrom 8 = .ok (.aload_n 0, 1) := by decide +kernel
theorem dX1_copyFrom_9 : decode cX1_copyFrom 9 = .ok (.aload_n 1, 1) := by decide +kernel
theorem dX1_copyFrom_10 : decode cX1_copyFrom 10 = .ok (.getfield 13, 3) := by decide +kernel
theorem dX1_copyFrom_13 : decode cX1_copyFrom 13 = .ok (.putfield 13, 3) := by decide +kernel
theorem dX1_copyFrom_16 : decode cX1_copyFrom 16 = .ok (.aload_n 0, 1) := by decide +kernel
theorem dX1_copyFrom_17 : decode cX1_copyFrom 17 = .ok (.aload_n 1, 1) := by decide +kernel
theorem dX1_copyFrom_18 : decode cX1_copyFrom 18 = .ok (.getfield 17, 3) := by decide +kernel
theorem dX1_copyFrom_21 : decode cX1_copyFrom 21 = .ok (.putfield 17, 3) := by decide +kernel
theorem dX1_copyFrom_24 : decode cX1_copyFrom 24 = .ok (.aload_n 0, 1) := by decide +kernel
theorem dX1_copyFrom_25 : decode cX1_copyFrom 25 = .ok (.aload_n 1, 1) := by decide +kernel
theorem dX1_copyFrom_26 : decode cX1_copyFrom 26 = .ok (.getfield 20, 3) := by decide +kernel
theorem dX1_copyFrom_29 : decode cX1_copyFrom 29 = .ok (.putfield 20, 3) := by decide +kernel
theorem dX1_copyFrom_32 : decode cX1_copyFrom 32 = .ok (.aload_n 0, 1) := by decide +kernel
theorem dX1_copyFrom_33 : decode cX1_copyFrom 33 = .ok (.aload_n 1, 1) := by decide +kernel
theorem dX1_copyFrom_34 : decode cX1_copyFrom 34 = .ok (.getfield 23, 3) := by decide +kernel
theorem dX1_copyFrom_37 : decode cX1_copyFrom 37 = .ok (.putfield 23, 3) := by decide +kernel
theorem dX1_copyFrom_40 : decode cX1_copyFrom 40 = .ok (.aload_n 0, 1) := by decide +kernel
theorem dX1_copyFrom_41 : decode cX1_copyFrom 41 = .ok (.aload_n 1, 1) := by decide +kernel
theorem dX1_copyFrom_42 : decode cX1_copyFrom 42 = .ok (.getfield 26, 3) := by decide +kernel
theorem dX1_copyFrom_45 : decode cX1_copyFrom 45 = .ok (.putfield 26, 3) := by decide +kernel
theorem dX1_copyFrom_48 : decode cX1_copyFrom 48 = .ok (.aload_n 0, 1) := by decide +kernel
theorem dX1_copyFrom_49 : decode cX1_copyFrom 49 = .ok (.aload_n 1, 1) := by decide +kernel
theorem dX1_copyFrom_50 : decode cX1_copyFrom 50 = .ok (.getfield 29, 3) := by decide +kernel
theorem dX1_copyFrom_53 : decode cX1_copyFrom 53 = .ok (.putfield 29, 3) := by decide +kernel
theorem dX1_copyFrom_56 : decode cX1_copyFrom 56 = .ok (.return_, 1) := by decide +kernel
theorem dX2_init_0 : decode cX2_init 0 = .ok (.aload_n 0, 1) := by decide +kernel
theorem dX2_init_1 : decode cX2_init 1 = .ok (.invokespecial 3, 3) := by decide +kernel
theorem dX2_init_4 : decode cX2_init 4 = .ok (.aload_n 0, 1) := by decide +kernel
theorem dX2_init_5 : decode cX2_init 5 = .ok (.sipush 2048, 3) := by decide +kernel
theorem dX2_init_8 : decode cX2_init 8 = .ok (.newarray .int, 2) := by decide +kernel
theorem dX2_init_10 : decode cX2_init 10 = .ok (.putfield 9, 3) := by decide +kernel
theorem dX2_init_13 : decode cX2_init 13 = .ok (.return_, 1) := by decide +kernel
theorem dX2_copyFrom_0 : decode cX2_copyFrom 0 = .ok (.aload_n 0, 1) := by decide +kernel
theorem dX2_copyFrom_1 : decode cX2_copyFrom 1 = .ok (.aload_n 1, 1) := by decide +kernel
theorem dX2_copyFrom_2 : decode cX2_copyFrom 2 = .ok (.getfield 15, 3) := by decide +kernel
theorem dX2_copyFrom_5 : decode cX2_copyFrom 5 = .ok (.putfield 15, 3) := by decide +kernel
theorem dX2_copyFrom_8 : decode cX2_copyFrom 8 = .ok (.iconst 0, 1) := by decide +kernel
theorem dX2_copyFrom_9 : decode cX2_copyFrom 9 = .ok (.istore_n 2, 1) := by decide +kernel
theorem dX2_copyFrom_10 : decode cX2_copyFrom 10 = .ok (.iload_n 2, 1) := by decide +kernel
theorem dX2_copyFrom_11 : decode cX2_copyFrom 11 = .ok (.aload_n 0, 1) := by decide +kernel
theorem dX2_copyFrom_12 : decode cX2_copyFrom 12 = .ok (.getfield 15, 3) := by decide +kernel
theorem dX2_copyFrom_15 : decode cX2_copyFrom 15 = .ok (.if_icmp .ge 25, 3) := by decide +kernel
theorem dX2_copyFrom_18 : decode cX2_copyFrom 18 = .ok (.aload_n 0, 1) := by decide +kernel
theorem dX2_copyFrom_19 : decode cX2_copyFrom 19 = .ok (.getfield 9, 3) := by decide +kernel
theorem dX2_copyFrom_22 : decode cX2_copyFrom 22 = .ok (.iload_n 2, 1) := by decide +kernel
theorem dX2_copyFrom_23 : decode cX2_copyFrom 23 = .ok (.aload_n 1, 1) := by decide +kernel
theorem dX2_copyFrom_24 : decode cX2_copyFrom 24 = .ok (.getfield 9, 3) := by decide +kernel
theorem dX2_copyFrom_27 : decode cX2_copyFrom 27 = .ok (.iload_n 2, 1) := by decide +kernel
theorem dX2_copyFrom_28 : decode cX2_copyFrom 28 = .ok (.invokestatic 19, 3) := by decide +kernel
theorem dX2_copyFrom_31 : decode cX2_copyFrom 31 = .ok (.invokestatic 23, 3) := by decide +kernel
theorem dX2_copyFrom_34 : decode cX2_copyFrom 34 = .ok (.iinc 2 1, 3) := by decide +kernel
theorem dX2_copyFrom_37 : decode cX2_copyFrom 37 = .ok (.goto (-27), 3) := by decide +kernel
theorem dX2_copyFrom_40 : decode cX2_copyFrom 40 = .ok (.return_, 1) := by decide +kernel
theorem dX2_append_0 : decode cX2_append 0 = .ok (.aload_n 0, 1) := by decide +kernel
theorem dX2_append_1 : decode cX2_append 1 = .ok (.iload_n 1, 1) := by decide +kernel
theorem dX2_append_2 : decode cX2_append 2 = .ok (.invokevirtual 27, 3) := by decide +kernel
theorem dX2_append_5 : decode cX2_append 5 = .ok (.aload_n 0, 1) := by decide +kernel
theorem dX2_append_6 : decode cX2_append 6 = .ok (.bipush 58, 2) := by decide +kernel
theorem dX2_append_8 : decode cX2_append 8 = .ok (.invokevirtual 31, 3) := by decide +kernel
theorem dX2_append_11 : decode cX2_append 11 = .ok (.iconst 0, 1) := by decide +kernel
theorem dX2_append_12 : decode cX2_append 12 = .ok (.istore 5, 2) := by decide +kernel
theorem dX2_append_14 : decode cX2_append 14 = .ok (.iload 5, 2) := by decide +kernel
theorem dX2_append_16 : decode cX2_append 16 = .ok (.aload_n 2, 1) := by decide +kernel
theorem dX2_append_17 : decode cX2_append 17 = .ok (.invokevirtual 34, 3) := by decide +kernel
theorem dX2_append_20 : decode cX2_append 20 = .ok (.if_icmp .ge 19, 3) := by decide +kernel
theorem dX2_append_23 : decode cX2_append 23 = .ok (.aload_n 0, 1) := by decide +kernel
theorem dX2_append_24 : decode cX2_append 24 = .ok (.aload_n 2, 1) := by decide +kernel
theorem dX2_append_25 : decode cX2_append 25 = .ok (.iload 5, 2) := by decide +kernel
theorem dX2_append_27 : decode cX2_append 27 = .ok (.invokevirtual 39, 3) := by decide +kernel
theorem dX2_append_30 : decode cX2_append 30 = .ok (.invokevirtual 31, 3) := by decide +kernel
theorem dX2_append_33 : decode cX2_append 33 = .ok (.iinc 5 1, 3) := by decide +kernel
theorem dX2_append_36 : decode cX2_append 36 = .ok (.goto (-22), 3) := by decide +kernel
theorem dX2_append_39 : decode cX2_append 39 = .ok (.aload_n 0, 1) := by decide +kernel
theorem dX2_append_40 : decode cX2_append 40 = .ok (.iload_n 3, 1) := by decide +kernel
theorem dX2_append_41 : decode cX2_append 41 = .ok (.invokevirtual 43, 3) := by decide +kernel
theorem dX2_append_44 : decode cX2_append 44 = .ok (.aload_n 0, 1) := by decide +kernel
theorem dX2_append_45 : decode cX2_append 45 = .ok (.iload 4, 2) := by decide +kernel
theorem dX2_append_47 : decode cX2_append 47 = .ok (.invokevirtual 43, 3) := by decide +kernel
theorem dX2_append_50 : decode cX2_append 50 = .ok (.aload_n 0, 1) := by decide +kernel
theorem dX2_append_51 : decode cX2_append 51 = .ok (.bipush 47, 2) := by decide +kernel
theorem dX2_append_53 : decode cX2_append 53 = .ok (.invokevirtual 31, 3) := by decide +kernel
theorem dX2_append_56 : decode cX2_append 56 = .ok (.return_, 1) := by decide +kernel
theorem dX2_appendArgument_0 : decode cX2_appendArgument 0 = .ok (.iload_n 1, 1) := by decide +kernel
theorem dX2_appendArgument_1 : decode cX2_appendArgument 1 = .ok (.iconst (-1), 1) := by decide +kernel
theorem dX2_appendArgument_2 : decode cX2_appendArgument 2 = .ok (.if_icmp .eq 14, 3) := by decide +kernel
theorem dX2_appendArgument_5 : decode cX2_appendArgument 5 = .ok (.aload_n 0, 1) := by decide +kernel
theorem dX2_appendArgument_6 : decode cX2_appendArgument 6 = .ok (.bipush 32, 2) := by decide +kernel
theorem dX2_appendArgument_8 : decode cX2_appendArgument 8 = .ok (.invokevirtual 31, 3) := by decide +kernel
theorem dX2_appendArgument_11 : decode cX2_appendArgument 11 = .ok (.aload_n 0, 1) := by decide +kernel
theorem dX2_appendArgument_12 : decode cX2_appendArgument 12 = .ok (.iload_n 1, 1) := by decide +kernel
theorem dX2_appendArgument_13 : decode cX2_appendArgument 13 = .ok (.invokevirtual 27, 3) := by decide +kernel
theorem dX2_appendArgument_16 : decode cX2_appendArgument 16 = .ok (.return_, 1) := by decide +kernel
theorem dX2_appendNumber_0 : decode cX2_appendNumber 0 = .ok (.ldc 46, 2) := by decide +kernel
theorem dX2_appendNumber_2 : decode cX2_appendNumber 2 = .ok (.istore_n 2, 1) := by decide +kernel
theorem dX2_appendNumber_3 : decode cX2_appendNumber 3 = .ok (.iload_n 2, 1) := by decide +kernel
theorem dX2_appendNumber_4 : decode cX2_appendNumber 4 = .ok (.ifCond .le 34, 3) := by decide +kernel
theorem dX2_appendNumber_7 : decode cX2_appendNumber 7 = .ok (.iload_n 1, 1) := by decide +kernel
theorem dX2_appendNumber_8 : decode cX2_appendNumber 8 = .ok (.iload_n 2, 1) := by decide +kernel
theorem dX2_appendNumber_9 : decode cX2_appendNumber 9 = .ok (.if_icmp .ge 8, 3) := by decide +kernel
theorem dX2_appendNumber_12 : decode cX2_appendNumber 12 = .ok (.iload_n 2, 1) := by decide +kernel
theorem dX2_appendNumber_13 : decode cX2_appendNumber 13 = .ok (.iconst 1, 1) := by decide +kernel
theorem dX2_appendNumber_14 : decode cX2_appendNumber 14 = .ok (.if_icmp .ne 16, 3) := by decide +kernel
theorem dX2_appendNumber_17 : decode cX2_appendNumber 17 = .ok (.aload_n 0, 1) := by decide +kernel
theorem dX2_appendNumber_18 : decode cX2_appendNumber 18 = .ok (.bipush 48, 2) := by decide +kernel
theorem dX2_appendNumber_20 : decode cX2_appendNumber 20 = .ok (.iload_n 1, 1) := by decide +kernel
theorem dX2_appendNumber_21 : decode cX2_appendNumber 21 = .ok (.iload_n 2, 1) := by decide +kernel
theorem dX2_appendNumber_22 : decode cX2_appendNumber 22 = .ok (.idiv, 1) := by decide +kernel
theorem dX2_appendNumber_23 : decode cX2_appendNumber 23 = .ok (.bipush 10, 2) := by decide +kernel
theorem dX2_appendNumber_25 : decode cX2_appendNumber 25 = .ok (.irem, 1) := by decide +kernel
theorem dX2_appendNumber_26 : decode cX2_appendNumber 26 = .ok (.iadd, 1) := by decide +kernel
theorem dX2_appendNumber_27 : decode cX2_appendNumber 27 = .ok (.invokevirtual 31, 3) := by decide +kernel
theorem dX2_appendNumber_30 : decode cX2_appendNumber 30 = .ok (.iload_n 2, 1) := by decide +kernel
theorem dX2_appendNumber_31 : decode cX2_appendNumber 31 = .ok (.bipush 10, 2) := by decide +kernel
theorem dX2_appendNumber_33 : decode cX2_appendNumber 33 = .ok (.idiv, 1) := by decide +kernel
theorem dX2_appendNumber_34 : decode cX2_appendNumber 34 = .ok (.istore_n 2, 1) := by decide +kernel
theorem dX2_appendNumber_35 : decode cX2_appendNumber 35 = .ok (.goto (-32), 3) := by decide +kernel
theorem dX2_appendNumber_38 : decode cX2_appendNumber 38 = .ok (.return_, 1) := by decide +kernel
theorem dX2_appendSign_0 : decode cX2_appendSign 0 = .ok (.aload_n 0, 1) := by decide +kernel
theorem dX2_appendSign_1 : decode cX2_appendSign 1 = .ok (.getfield 15, 3) := by decide +kernel
theorem dX2_appendSign_4 : decode cX2_appendSign 4 = .ok (.sipush 2048, 3) := by decide +kernel
theorem dX2_appendSign_7 : decode cX2_appendSign 7 = .ok (.if_icmp .ge 25, 3) := by decide +kernel
theorem dX2_appendSign_10 : decode cX2_appendSign 10 = .ok (.aload_n 0, 1) := by decide +kernel
theorem dX2_appendSign_11 : decode cX2_appendSign 11 = .ok (.getfield 9, 3) := by decide +kernel
theorem dX2_appendSign_14 : decode cX2_appendSign 14 = .ok (.aload_n 0, 1) := by decide +kernel
theorem dX2_appendSign_15 : decode cX2_appendSign 15 = .ok (.getfield 15, 3) := by decide +kernel
theorem dX2_appendSign_18 : decode cX2_appendSign 18 = .ok (.iload_n 1, 1) := by decide +kernel
theorem dX2_appendSign_19 : decode cX2_appendSign 19 = .ok (.invokestatic 23, 3) := by decide +kernel
theorem dX2_appendSign_22 : decode cX2_appendSign 22 = .ok (.aload_n 0, 1) := by decide +kernel
theorem dX2_appendSign_23 : decode cX2_appendSign 23 = .ok (.dup, 1) := by decide +kernel
theorem dX2_appendSign_24 : decode cX2_appendSign 24 = .ok (.getfield 15, 3) := by decide +kernel
theorem dX2_appendSign_27 : decode cX2_appendSign 27 = .ok (.iconst 1, 1) := by decide +kernel
theorem dX2_appendSign_28 : decode cX2_appendSign 28 = .ok (.iadd, 1) := by decide +kernel
theorem dX2_appendSign_29 : decode cX2_appendSign 29 = .ok (.putfield 15, 3) := by decide +kernel
theorem dX2_appendSign_32 : decode cX2_appendSign 32 = .ok (.return_, 1) := by decide +kernel
theorem dX3_init_0 : decode cX3_init 0 = .ok (.aload_n 0, 1) := by decide +kernel
theorem dX3_init_1 : decode cX3_init 1 = .ok (.invokespecial 3, 3) := by decide +kernel
theorem dX3_init_4 : decode cX3_init 4 = .ok (.aload_n 0, 1) := by decide +kernel
theorem dX3_init_5 : decode cX3_init 5 = .ok (.bipush 8, 2) := by decide +kernel
theorem dX3_init_7 : decode cX3_init 7 = .ok (.newarray .int, 2) := by decide +kernel
theorem dX3_init_9 : decode cX3_init 9 = .ok (.putfield 9, 3) := by decide +kernel
theorem dX3_init_12 : decode cX3_init 12 = .ok (.aload_n 0, 1) := by decide +kernel
theorem dX3_init_13 : decode cX3_init 13 = .ok (.bipush 8, 2) := by decide +kernel
theorem dX3_init_15 : decode cX3_init 15 = .ok (.newarray .int, 2) := by decide +kernel
theorem dX3_init_17 : decode cX3_init 17 = .ok (.putfield 15, 3) := by decide +kernel
theorem dX3_init_20 : decode cX3_init 20 = .ok (.return_, 1) := by decide +kernel
theorem dX3_copyFrom_0 : decode cX3_copyFrom 0 = .ok (.aload_n 0, 1) := by decide +kernel
theorem dX3_copyFrom_1 : decode cX3_copyFrom 1 = .ok (.aload_n 1, 1) := by decide +kernel
theorem dX3_copyFrom_2 : decode cX3_copyFrom 2 = .ok (.getfield 18, 3) := by decide +kernel
theorem dX3_copyFrom_5 : decode cX3_copyFrom 5 = .ok (.putfield 18, 3) := by decide +kernel
theorem dX3_copyFrom_8 : decode cX3_copyFrom 8 = .ok (.aload_n 1, 1) := by decide +kernel
theorem dX3_copyFrom_9 : decode cX3_copyFrom 9 = .ok (.getfield 9, 3) := by decide +kernel
theorem dX3_copyFrom_12 : decode cX3_copyFrom 12 = .ok (.aload_n 0, 1) := by decide +kernel
theorem dX3_copyFrom_13 : decode cX3_copyFrom 13 = .ok (.getfield 9, 3) := by decide +kernel
theorem dX3_copyFrom_16 : decode cX3_copyFrom 16 = .ok (.invokestatic 22, 3) := by decide +kernel
theorem dX3_copyFrom_19 : decode cX3_copyFrom 19 = .ok (.aload_n 1, 1) := by decide +kernel
theorem dX3_copyFrom_20 : decode cX3_copyFrom 20 = .ok (.getfield 15, 3) := by decide +kernel
theorem dX3_copyFrom_23 : decode cX3_copyFrom 23 = .ok (.aload_n 0, 1) := by decide +kernel
theorem dX3_copyFrom_24 : decode cX3_copyFrom 24 = .ok (.getfield 15, 3) := by decide +kernel
theorem dX3_copyFrom_27 : decode cX3_copyFrom 27 = .ok (.invokestatic 22, 3) := by decide +kernel
theorem dX3_copyFrom_30 : decode cX3_copyFrom 30 = .ok (.return_, 1) := by decide +kernel
theorem dX3_hasGroup_0 : decode cX3_hasGroup 0 = .ok (.iload_n 1, 1) := by decide +kernel
theorem dX3_hasGroup_1 : decode cX3_hasGroup 1 = .ok (.ifCond .lt 15, 3) := by decide +kernel
theorem dX3_hasGroup_4 : decode cX3_hasGroup 4 = .ok (.iload_n 1, 1) := by decide +kernel
theorem dX3_hasGroup_5 : decode cX3_hasGroup 5 = .ok (.aload_n 0, 1) := by decide +kernel
theorem dX3_hasGroup_6 : decode cX3_hasGroup 6 = .ok (.getfield 18, 3) := by decide +kernel
theorem dX3_hasGroup_9 : decode cX3_hasGroup 9 = .ok (.if_icmp .ge 7, 3) := by decide +kernel
theorem dX3_hasGroup_12 : decode cX3_hasGroup 12 = .ok (.iconst 1, 1) := by decide +kernel
theorem dX3_hasGroup_13 : decode cX3_hasGroup 13 = .ok (.goto 4, 3) := by decide +kernel
theorem dX3_hasGroup_16 : decode cX3_hasGroup 16 = .ok (.iconst 0, 1) := by decide +kernel
theorem dX3_hasGroup_17 : decode cX3_hasGroup 17 = .ok (.ireturn, 1) := by decide +kernel
theorem dX3_append_0 : decode cX3_append 0 = .ok (.aload_n 0, 1) := by decide +kernel
theorem dX3_append_1 : decode cX3_append 1 = .ok (.getfield 9, 3) := by decide +kernel
theorem dX3_append_4 : decode cX3_append 4 = .ok (.aload_n 0, 1) := by decide +kernel
theorem dX3_append_5 : decode cX3_append 5 = .ok (.getfield 18, 3) := by decide +kernel
theorem dX3_append_8 : decode cX3_append 8 = .ok (.iload_n 1, 1) := by decide +kernel
theorem dX3_append_9 : decode cX3_append 9 = .ok (.invokestatic 26, 3) := by decide +kernel
theorem dX3_append_12 : decode cX3_append 12 = .ok (.aload_n 0, 1) := by decide +kernel
theorem dX3_append_13 : decode cX3_append 13 = .ok (.getfield 15, 3) := by decide +kernel
theorem dX3_append_16 : decode cX3_append 16 = .ok (.aload_n 0, 1) := by decide +kernel
theorem dX3_append_17 : decode cX3_append 17 = .ok (.getfield 18, 3) := by decide +kernel
theorem dX3_append_20 : decode cX3_append 20 = .ok (.iload_n 2, 1) := by decide +kernel
theorem dX3_append_21 : decode cX3_append 21 = .ok (.invokestatic 26, 3) := by decide +kernel
theorem dX3_append_24 : decode cX3_append 24 = .ok (.aload_n 0, 1) := by decide +kernel
theorem dX3_append_25 : decode cX3_append 25 = .ok (.dup, 1) := by decide +kernel
theorem dX3_append_26 : decode cX3_append 26 = .ok (.getfield 18, 3) := by decide +kernel
theorem dX3_append_29 : decode cX3_append 29 = .ok (.iconst 1, 1) := by decide +kernel
theorem dX3_append_30 : decode cX3_append 30 = .ok (.iadd, 1) := by decide +kernel
theorem dX3_append_31 : decode cX3_append 31 = .ok (.putfield 18, 3) := by decide +kernel
theorem dX3_append_34 : decode cX3_append 34 = .ok (.return_, 1) := by decide +kernel
theorem dX3_remove_0 : decode cX3_remove 0 = .ok (.iload_n 1, 1) := by decide +kernel
theorem dX3_remove_1 : decode cX3_remove 1 = .ok (.iconst 1, 1) := by decide +kernel
theorem dX3_remove_2 : decode cX3_remove 2 = .ok (.iadd, 1) := by decide +kernel
theorem dX3_remove_3 : decode cX3_remove 3 = .ok (.istore_n 2, 1) := by decide +kernel
theorem dX3_remove_4 : decode cX3_remove 4 = .ok (.iload_n 2, 1) := by decide +kernel
theorem dX3_remove_5 : decode cX3_remove 5 = .ok (.aload_n 0, 1) := by decide +kernel
theorem dX3_remove_6 : decode cX3_remove 6 = .ok (.getfield 18, 3) := by decide +kernel
theorem dX3_remove_9 : decode cX3_remove 9 = .ok (.if_icmp .ge 45, 3) := by decide +kernel
theorem dX3_remove_12 : decode cX3_remove 12 = .ok (.aload_n 0, 1) := by decide +kernel
theorem dX3_remove_13 : decode cX3_remove 13 = .ok (.getfield 9, 3) := by decide +kernel
theorem dX3_remove_16 : decode cX3_remove 16 = .ok (.iload_n 2, 1) := by decide +kernel
theorem dX3_remove_17 : decode cX3_remove 17 = .ok (.iconst 1, 1) := by decide +kernel
theorem dX3_remove_18 : decode cX3_remove 18 = .ok (.isub, 1) := by decide +kernel
theorem dX3_remove_19 : decode cX3_remove 19 = .ok (.aload_n 0, 1) := by decide +kernel
theorem dX3_remove_20 : decode cX3_remove 20 = .ok (.getfield 9, 3) := by decide +kernel
theorem dX3_remove_23 : decode cX3_remove 23 = .ok (.iload_n 2, 1) := by decide +kernel
theorem dX3_remove_24 : decode cX3_remove 24 = .ok (.invokestatic 30, 3) := by decide +kernel
theorem dX3_remove_27 : decode cX3_remove 27 = .ok (.invokestatic 26, 3) := by decide +kernel
theorem dX3_remove_30 : decode cX3_remove 30 = .ok (.aload_n 0, 1) := by decide +kernel
theorem dX3_remove_31 : decode cX3_remove 31 = .ok (.getfield 15, 3) := by decide +kernel
theorem dX3_remove_34 : decode cX3_remove 34 = .ok (.iload_n 2, 1) := by decide +kernel
theorem dX3_remove_35 : decode cX3_remove 35 = .ok (.iconst 1, 1) := by decide +kernel
theorem dX3_remove_36 : decode cX3_remove 36 = .ok (.isub, 1) := by decide +kernel
theorem dX3_remove_37 : decode cX3_remove 37 = .ok (.aload_n 0, 1) := by decide +kernel
theorem dX3_remove_38 : decode cX3_remove 38 = .ok (.getfield 15, 3) := by decide +kernel
theorem dX3_remove_41 : decode cX3_remove 41 = .ok (.iload_n 2, 1) := by decide +kernel
theorem dX3_remove_42 : decode cX3_remove 42 = .ok (.invokestatic 30, 3) := by decide +kernel
theorem dX3_remove_45 : decode cX3_remove 45 = .ok (.invokestatic 26, 3) := by decide +kernel
theorem dX3_remove_48 : decode cX3_remove 48 = .ok (.iinc 2 1, 3) := by decide +kernel
theorem dX3_remove_51 : decode cX3_remove 51 = .ok (.goto (-47), 3) := by decide +kernel
theorem dX3_remove_54 : decode cX3_remove 54 = .ok (.aload_n 0, 1) := by decide +kernel
theorem dX3_remove_55 : decode cX3_remove 55 = .ok (.dup, 1) := by decide +kernel
theorem dX3_remove_56 : decode cX3_remove 56 = .ok (.getfield 18, 3) := by decide +kernel
theorem dX3_remove_59 : decode cX3_remove 59 = .ok (.iconst 1, 1) := by decide +kernel
theorem dX3_remove_60 : decode cX3_remove 60 = .ok (.isub, 1) := by decide +kernel
theorem dX3_remove_61 : decode cX3_remove 61 = .ok (.putfield 18, 3) := by decide +kernel
theorem dX3_remove_64 : decode cX3_remove 64 = .ok (.return_, 1) := by decide +kernel
theorem dX3_waitingBefore_0 : decode cX3_waitingBefore 0 = .ok (.iconst 0, 1) := by decide +kernel
theorem dX3_waitingBefore_1 : decode cX3_waitingBefore 1 = .ok (.istore_n 2, 1) := by decide +kernel
theorem dX3_waitingBefore_2 : decode cX3_waitingBefore 2 = .ok (.iconst 0, 1) := by decide +kernel
theorem dX3_waitingBefore_3 : decode cX3_waitingBefore 3 = .ok (.istore_n 3, 1) := by decide +kernel
theorem dX3_waitingBefore_4 : decode cX3_waitingBefore 4 = .ok (.iload_n 3, 1) := by decide +kernel
theorem dX3_waitingBefore_5 : decode cX3_waitingBefore 5 = .ok (.aload_n 0, 1) := by decide +kernel
theorem dX3_waitingBefore_6 : decode cX3_waitingBefore 6 = .ok (.getfield 18, 3) := by decide +kernel
theorem dX3_waitingBefore_9 : decode cX3_waitingBefore 9 = .ok (.if_icmp .ge 24, 3) := by decide +kernel
theorem dX3_waitingBefore_12 : decode cX3_waitingBefore 12 = .ok (.aload_n 0, 1) := by decide +kernel
theorem dX3_waitingBefore_13 : decode cX3_waitingBefore 13 = .ok (.getfield 15, 3) := by decide +kernel
theorem dX3_waitingBefore_16 : decode cX3_waitingBefore 16 = .ok (.iload_n 3, 1) := by decide +kernel
theorem dX3_waitingBefore_17 : decode cX3_waitingBefore 17 = .ok (.invokestatic 30, 3) := by decide +kernel
theorem dX3_waitingBefore_20 : decode cX3_waitingBefore 20 = .ok (.iload_n 1, 1) := by decide +kernel
theorem dX3_waitingBefore_21 : decode cX3_waitingBefore 21 = .ok (.if_icmp .ge 6, 3) := by decide +kernel
theorem dX3_waitingBefore_24 : decode cX3_waitingBefore 24 = .ok (.iinc 2 1, 3) := by decide +kernel
theorem dX3_waitingBefore_27 : decode cX3_waitingBefore 27 = .ok (.iinc 3 1, 3) := by decide +kernel
theorem dX3_waitingBefore_30 : decode cX3_waitingBefore 30 = .ok (.goto (-26), 3) := by decide +kernel
theorem dX3_waitingBefore_33 : decode cX3_waitingBefore 33 = .ok (.iload_n 2, 1) := by decide +kernel
theorem dX3_waitingBefore_34 : decode cX3_waitingBefore 34 = .ok (.ireturn, 1) := by decide +kernel
theorem dX4_init_0 : decode cX4_init 0 = .ok (.aload_n 0, 1) := by decide +kernel
theorem dX4_init_1 : decode cX4_init 1 = .ok (.invokespecial 3, 3) := by decide +kernel
theorem dX4_init_4 : decode cX4_init 4 = .ok (.aload_n 0, 1) := by decide +kernel
theorem dX4_init_5 : decode cX4_init 5 = .ok (.sipush 210, 3) := by decide +kernel
theorem dX4_init_8 : decode cX4_init 8 = .ok (.newarray .int, 2) := by decide +kernel
theorem dX4_init_10 : decode cX4_init 10 = .ok (.putfield 9, 3) := by decide +kernel
theorem dX4_init_13 : decode cX4_init 13 = .ok (.return_, 1) := by decide +kernel
theorem dX4_copyFrom_0 : decode cX4_copyFrom 0 = .ok (.aload_n 0, 1) := by decide +kernel
theorem dX4_copyFrom_1 : decode cX4_copyFrom 1 = .ok (.aload_n 1, 1) := by decide +kernel
theorem dX4_copyFrom_2 : decode cX4_copyFrom 2 = .ok (.getfield 15, 3) := by decide +kernel
theorem dX4_copyFrom_5 : decode cX4_copyFrom 5 = .ok (.putfield 15, 3) := by decide +kernel
theorem dX4_copyFrom_8 : decode cX4_copyFrom 8 = .ok (.aload_n 1, 1) := by decide +kernel
theorem dX4_copyFrom_9 : decode cX4_copyFrom 9 = .ok (.getfield 9, 3) := by decide +kernel
theorem dX4_copyFrom_12 : decode cX4_copyFrom 12 = .ok (.aload_n 0, 1) := by decide +kernel
theorem dX4_copyFrom_13 : decode cX4_copyFrom 13 = .ok (.getfield 9, 3) := by decide +kernel
theorem dX4_copyFrom_16 : decode cX4_copyFrom 16 = .ok (.invokestatic 19, 3) := by decide +kernel
theorem dX4_copyFrom_19 : decode cX4_copyFrom 19 = .ok (.return_, 1) := by decide +kernel
theorem dX4_append_0 : decode cX4_append 0 = .ok (.aload_n 0, 1) := by decide +kernel
theorem dX4_append_1 : decode cX4_append 1 = .ok (.getfield 15, 3) := by decide +kernel
theorem dX4_append_4 : decode cX4_append 4 = .ok (.bipush 7, 2) := by decide +kernel
theorem dX4_append_6 : decode cX4_append 6 = .ok (.imul, 1) := by decide +kernel
theorem dX4_append_7 : decode cX4_append 7 = .ok (.istore 4, 2) := by decide +kernel
theorem dX4_append_9 : decode cX4_append 9 = .ok (.aload_n 0, 1) := by decide +kernel
theorem dX4_append_10 : decode cX4_append 10 = .ok (.getfield 9, 3) := by decide +kernel
theorem dX4_append_13 : decode cX4_append 13 = .ok (.iload 4, 2) := by decide +kernel
theorem dX4_append_15 : decode cX4_append 15 = .ok (.aload_n 1, 1) := by decide +kernel
theorem dX4_append_16 : decode cX4_append 16 = .ok (.getfield 23, 3) := by decide +kernel
theorem dX4_append_19 : decode cX4_append 19 = .ok (.invokestatic 28, 3) := by decide +kernel
theorem dX4_append_22 : decode cX4_append 22 = .ok (.aload_n 0, 1) := by decide +kernel
theorem dX4_append_23 : decode cX4_append 23 = .ok (.getfield 9, 3) := by decide +kernel
theorem dX4_append_26 : decode cX4_append 26 = .ok (.iload 4, 2) := by decide +kernel
theorem dX4_append_28 : decode cX4_append 28 = .ok (.iconst 1, 1) := by decide +kernel
theorem dX4_append_29 : decode cX4_append 29 = .ok (.iadd, 1) := by decide +kernel
theorem dX4_append_30 : decode cX4_append 30 = .ok (.aload_n 1, 1) := by decide +kernel
theorem dX4_append_31 : decode cX4_append 31 = .ok (.getfield 32, 3) := by decide +kernel
theorem dX4_append_34 : decode cX4_append 34 = .ok (.invokestatic 28, 3) := by decide +kernel
theorem dX4_append_37 : decode cX4_append 37 = .ok (.aload_n 0, 1) := by decide +kernel
theorem dX4_append_38 : decode cX4_append 38 = .ok (.getfield 9, 3) := by decide +kernel
theorem dX4_append_41 : decode cX4_append 41 = .ok (.iload 4, 2) := by decide +kernel
theorem dX4_append_43 : decode cX4_append 43 = .ok (.iconst 2, 1) := by decide +kernel
theorem dX4_append_44 : decode cX4_append 44 = .ok (.iadd, 1) := by decide +kernel
theorem dX4_append_45 : decode cX4_append 45 = .ok (.aload_n 1, 1) := by decide +kernel
theorem dX4_append_46 : decode cX4_append 46 = .ok (.getfield 35, 3) := by decide +kernel
theorem dX4_append_49 : decode cX4_append 49 = .ok (.invokestatic 28, 3) := by decide +kernel
theorem dX4_append_52 : decode cX4_append 52 = .ok (.aload_n 0, 1) := by decide +kernel
theorem dX4_append_53 : decode cX4_append 53 = .ok (.getfield 9, 3) := by decide +kernel
theorem dX4_append_56 : decode cX4_append 56 = .ok (.iload 4, 2) := by decide +kernel
theorem dX4_append_58 : decode cX4_append 58 = .ok (.iconst 3, 1) := by decide +kernel
theorem dX4_append_59 : decode cX4_append 59 = .ok (.iadd, 1) := by decide +kernel
theorem dX4_append_60 : decode cX4_append 60 = .ok (.iload_n 2, 1) := by decide +kernel
theorem dX4_append_61 : decode cX4_append 61 = .ok (.invokestatic 28, 3) := by decide +kernel
theorem dX4_append_64 : decode cX4_append 64 = .ok (.aload_n 0, 1) := by decide +kernel
theorem dX4_append_65 : decode cX4_append 65 = .ok (.getfield 9, 3) := by decide +kernel
theorem dX4_append_68 : decode cX4_append 68 = .ok (.iload 4, 2) := by decide +kernel
theorem dX4_append_70 : decode cX4_append 70 = .ok (.iconst 4, 1) := by decide +kernel
theorem dX4_append_71 : decode cX4_append 71 = .ok (.iadd, 1) := by decide +kernel
theorem dX4_append_72 : decode cX4_append 72 = .ok (.iload_n 3, 1) := by decide +kernel
theorem dX4_append_73 : decode cX4_append 73 = .ok (.invokestatic 28, 3) := by decide +kernel
theorem dX4_append_76 : decode cX4_append 76 = .ok (.aload_n 0, 1) := by decide +kernel
theorem dX4_append_77 : decode cX4_append 77 = .ok (.getfield 9, 3) := by decide +kernel
theorem dX4_append_80 : decode cX4_append 80 = .ok (.iload 4, 2) := by decide +kernel
theorem dX4_append_82 : decode cX4_append 82 = .ok (.iconst 5, 1) := by decide +kernel
theorem dX4_append_83 : decode cX4_append 83 = .ok (.iadd, 1) := by decide +kernel
theorem dX4_append_84 : decode cX4_append 84 = .ok (.aload_n 1, 1) := by decide +kernel
theorem dX4_append_85 : decode cX4_append 85 = .ok (.getfield 38, 3) := by decide +kernel
theorem dX4_append_88 : decode cX4_append 88 = .ok (.invokestatic 28, 3) := by decide +kernel
theorem dX4_append_91 : decode cX4_append 91 = .ok (.aload_n 0, 1) := by decide +kernel
theorem dX4_append_92 : decode cX4_append 92 = .ok (.getfield 9, 3) := by decide +kernel
theorem dX4_append_95 : decode cX4_append 95 = .ok (.iload 4, 2) := by decide +kernel
theorem dX4_append_97 : decode cX4_append 97 = .ok (.bipush 6, 2) := by decide +kernel
theorem dX4_append_99 : decode cX4_append 99 = .ok (.iadd, 1) := by decide +kernel
theorem dX4_append_100 : decode cX4_append 100 = .ok (.aload_n 1, 1) := by decide +kernel
theorem dX4_append_101 : decode cX4_append 101 = .ok (.getfield 41, 3) := by decide +kernel
theorem dX4_append_104 : decode cX4_append 104 = .ok (.invokestatic 28, 3) := by decide +kernel
theorem dX4_append_107 : decode cX4_append 107 = .ok (.aload_n 0, 1) := by decide +kernel
theorem dX4_append_108 : decode cX4_append 108 = .ok (.dup, 1) := by decide +kernel
theorem dX4_append_109 : decode cX4_append 109 = .ok (.getfield 15, 3) := by decide +kernel
theorem dX4_append_112 : decode cX4_append 112 = .ok (.iconst 1, 1) := by decide +kernel
theorem dX4_append_113 : decode cX4_append 113 = .ok (.iadd, 1) := by decide +kernel
theorem dX4_append_114 : decode cX4_append 114 = .ok (.putfield 15, 3) := by decide +kernel
theorem dX4_append_117 : decode cX4_append 117 = .ok (.return_, 1) := by decide +kernel
theorem dX4_wins_0 : decode cX4_wins 0 = .ok (.iconst 0, 1) := by decide +kernel
theorem dX4_wins_1 : decode cX4_wins 1 = .ok (.istore_n 1, 1) := by decide +kernel
theorem dX4_wins_2 : decode cX4_wins 2 = .ok (.iconst 0, 1) := by decide +kernel
theorem dX4_wins_3 : decode cX4_wins 3 = .ok (.istore_n 2, 1) := by decide +kernel
theorem dX4_wins_4 : decode cX4_wins 4 = .ok (.iload_n 2, 1) := by decide +kernel
theorem dX4_wins_5 : decode cX4_wins 5 = .ok (.aload_n 0, 1) := by decide +kernel
theorem dX4_wins_6 : decode cX4_wins 6 = .ok (.getfield 15, 3) := by decide +kernel
theorem dX4_wins_9 : decode cX4_wins 9 = .ok (.if_icmp .ge 25, 3) := by decide +kernel
theorem dX4_wins_12 : decode cX4_wins 12 = .ok (.iload_n 1, 1) := by decide +kernel
theorem dX4_wins_13 : decode cX4_wins 13 = .ok (.aload_n 0, 1) := by decide +kernel
theorem dX4_wins_14 : decode cX4_wins 14 = .ok (.getfield 9, 3) := by decide +kernel
theorem dX4_wins_17 : decode cX4_wins 17 = .ok (.iload_n 2, 1) := by decide +kernel
theorem dX4_wins_18 : decode cX4_wins 18 = .ok (.bipush 7, 2) := by decide +kernel
theorem dX4_wins_20 : decode cX4_wins 20 = .ok (.imul, 1) := by decide +kernel
theorem dX4_wins_21 : decode cX4_wins 21 = .ok (.iconst 4, 1) := by decide +kernel
theorem dX4_wins_22 : decode cX4_wins 22 = .ok (.iadd, 1) := by decide +kernel
theorem dX4_wins_23 : decode cX4_wins 23 = .ok (.invokestatic 44, 3) := by decide +kernel
theorem dX4_wins_26 : decode cX4_wins 26 = .ok (.iadd, 1) := by decide +kernel
theorem dX4_wins_27 : decode cX4_wins 27 = .ok (.istore_n 1, 1) := by decide +kernel
theorem dX4_wins_28 : decode cX4_wins 28 = .ok (.iinc 2 1, 3) := by decide +kernel
theorem dX4_wins_31 : decode cX4_wins 31 = .ok (.goto (-27), 3) := by decide +kernel
theorem dX4_wins_34 : decode cX4_wins 34 = .ok (.iload_n 1, 1) := by decide +kernel
theorem dX4_wins_35 : decode cX4_wins 35 = .ok (.ireturn, 1) := by decide +kernel
end
section
theorem dX5_init_0 : decode cX5_init 0 = .ok (.aload_n 0, 1) := by decide +kernel
theorem dX5_init_1 : decode cX5_init 1 = .ok (.invokespecial 3, 3) := by decide +kernel
theorem dX5_init_4 : decode cX5_init 4 = .ok (.aload_n 0, 1) := by decide +kernel
theorem dX5_init_5 : decode cX5_init 5 = .ok (.bipush 12, 2) := by decide +kernel
theorem dX5_init_7 : decode cX5_init 7 = .ok (.newarray .int, 2) := by decide +kernel
theorem dX5_init_9 : decode cX5_init 9 = .ok (.putfield 9, 3) := by decide +kernel
theorem dX5_init_12 : decode cX5_init 12 = .ok (.aload_n 0, 1) := by decide +kernel
theorem dX5_init_13 : decode cX5_init 13 = .ok (.bipush 12, 2) := by decide +kernel
theorem dX5_init_15 : decode cX5_init 15 = .ok (.newarray .int, 2) := by decide +kernel
theorem dX5_init_17 : decode cX5_init 17 = .ok (.putfield 15, 3) := by decide +kernel
theorem dX5_init_20 : decode cX5_init 20 = .ok (.aload_n 0, 1) := by decide +kernel
theorem dX5_init_21 : decode cX5_init 21 = .ok (.bipush 12, 2) := by decide +kernel
theorem dX5_init_23 : decode cX5_init 23 = .ok (.newarray .int, 2) := by decide +kernel
theorem dX5_init_25 : decode cX5_init 25 = .ok (.putfield 18, 3) := by decide +kernel
theorem dX5_init_28 : decode cX5_init 28 = .ok (.aload_n 0, 1) := by decide +kernel
theorem dX5_init_29 : decode cX5_init 29 = .ok (.bipush 12, 2) := by decide +kernel
theorem dX5_init_31 : decode cX5_init 31 = .ok (.newarray .int, 2) := by decide +kernel
theorem dX5_init_33 : decode cX5_init 33 = .ok (.putfield 21, 3) := by decide +kernel
theorem dX5_init_36 : decode cX5_init 36 = .ok (.aload_n 0, 1) := by decide +kernel
theorem dX5_init_37 : decode cX5_init 37 = .ok (.bipush 12, 2) := by decide +kernel
theorem dX5_init_39 : decode cX5_init 39 = .ok (.newarray .int, 2) := by decide +kernel
theorem dX5_init_41 : decode cX5_init 41 = .ok (.putfield 24, 3) := by decide +kernel
theorem dX5_init_44 : decode cX5_init 44 = .ok (.aload_n 0, 1) := by decide +kernel
theorem dX5_init_45 : decode cX5_init 45 = .ok (.bipush 24, 2) := by decide +kernel
theorem dX5_init_47 : decode cX5_init 47 = .ok (.newarray .int, 2) := by decide +kernel
theorem dX5_init_49 : decode cX5_init 49 = .ok (.putfield 27, 3) := by decide +kernel
theorem dX5_init_52 : decode cX5_init 52 = .ok (.aload_n 0, 1) := by decide +kernel
theorem dX5_init_53 : decode cX5_init 53 = .ok (.bipush 24, 2) := by decide +kernel
theorem dX5_init_55 : decode cX5_init 55 = .ok (.newarray .int, 2) := by decide +kernel
theorem dX5_init_57 : decode cX5_init 57 = .ok (.putfield 30, 3) := by decide +kernel
theorem dX5_init_60 : decode cX5_init 60 = .ok (.aload_n 0, 1) := by decide +kernel
theorem dX5_init_61 : decode cX5_init 61 = .ok (.bipush 12, 2) := by decide +kernel
theorem dX5_init_63 : decode cX5_init 63 = .ok (.newarray .int, 2) := by decide +kernel
theorem dX5_init_65 : decode cX5_init 65 = .ok (.putfield 33, 3) := by decide +kernel
theorem dX5_init_68 : decode cX5_init 68 = .ok (.aload_n 0, 1) := by decide +kernel
theorem dX5_init_69 : decode cX5_init 69 = .ok (.bipush 12, 2) := by decide +kernel
theorem dX5_init_71 : decode cX5_init 71 = .ok (.newarray .int, 2) := by decide +kernel
theorem dX5_init_73 : decode cX5_init 73 = .ok (.putfield 36, 3) := by decide +kernel
theorem dX5_init_76 : decode cX5_init 76 = .ok (.aload_n 0, 1) := by decide +kernel
theorem dX5_init_77 : decode cX5_init 77 = .ok (.bipush 12, 2) := by decide +kernel
theorem dX5_init_79 : decode cX5_init 79 = .ok (.newarray .int, 2) := by decide +kernel
theorem dX5_init_81 : decode cX5_init 81 = .ok (.putfield 39, 3) := by decide +kernel
theorem dX5_init_84 : decode cX5_init 84 = .ok (.aload_n 0, 1) := by decide +kernel
theorem dX5_init_85 : decode cX5_init 85 = .ok (.bipush 12, 2) := by decide +kernel
theorem dX5_init_87 : decode cX5_init 87 = .ok (.newarray .int, 2) := by decide +kernel
theorem dX5_init_89 : decode cX5_init 89 = .ok (.putfield 42, 3) := by decide +kernel
theorem dX5_init_92 : decode cX5_init 92 = .ok (.aload_n 0, 1) := by decide +kernel
theorem dX5_init_93 : decode cX5_init 93 = .ok (.iconst 1, 1) := by decide +kernel
theorem dX5_init_94 : decode cX5_init 94 = .ok (.putfield 45, 3) := by decide +kernel
theorem dX5_init_97 : decode cX5_init 97 = .ok (.aload_n 0, 1) := by decide +kernel
theorem dX5_init_98 : decode cX5_init 98 = .ok (.getfield 21, 3) := by decide +kernel
theorem dX5_init_101 : decode cX5_init 101 = .ok (.iconst 0, 1) := by decide +kernel
theorem dX5_init_102 : decode cX5_init 102 = .ok (.iconst 1, 1) := by decide +kernel
theorem dX5_init_103 : decode cX5_init 103 = .ok (.invokestatic 49, 3) := by decide +kernel
theorem dX5_init_106 : decode cX5_init 106 = .ok (.return_, 1) := by decide +kernel
theorem dX5_copyFrom_0 : decode cX5_copyFrom 0 = .ok (.aload_n 0, 1) := by decide +kernel
theorem dX5_copyFrom_1 : decode cX5_copyFrom 1 = .ok (.aload_n 1, 1) := by decide +kernel
theorem dX5_copyFrom_2 : decode cX5_copyFrom 2 = .ok (.getfield 45, 3) := by decide +kernel
theorem dX5_copyFrom_5 : decode cX5_copyFrom 5 = .ok (.putfield 45, 3) := by decide +kernel
theorem dX5_copyFrom_8 : decode cX5_copyFrom 8 = .ok (.aload_n 1, 1) := by decide +kernel
theorem dX5_copyFrom_9 : decode cX5_copyFrom 9 = .ok (.getfield 9, 3) := by decide +kernel
theorem dX5_copyFrom_12 : decode cX5_copyFrom 12 = .ok (.aload_n 0, 1) := by decide +kernel
theorem dX5_copyFrom_13 : decode cX5_copyFrom 13 = .ok (.getfield 9, 3) := by decide +kernel
theorem dX5_copyFrom_16 : decode cX5_copyFrom 16 = .ok (.invokestatic 53, 3) := by decide +kernel
theorem dX5_copyFrom_19 : decode cX5_copyFrom 19 = .ok (.aload_n 1, 1) := by decide +kernel
theorem dX5_copyFrom_20 : decode cX5_copyFrom 20 = .ok (.getfield 15, 3) := by decide +kernel
theorem dX5_copyFrom_23 : decode cX5_copyFrom 23 = .ok (.aload_n 0, 1) := by decide +kernel
theorem dX5_copyFrom_24 : decode cX5_copyFrom 24 = .ok (.getfield 15, 3) := by decide +kernel
theorem dX5_copyFrom_27 : decode cX5_copyFrom 27 = .ok (.invokestatic 53, 3) := by decide +kernel
theorem dX5_copyFrom_30 : decode cX5_copyFrom 30 = .ok (.aload_n 1, 1) := by decide +kernel
theorem dX5_copyFrom_31 : decode cX5_copyFrom 31 = .ok (.getfield 18, 3) := by decide +kernel
theorem dX5_copyFrom_34 : decode cX5_copyFrom 34 = .ok (.aload_n 0, 1) := by decide +kernel
theorem dX5_copyFrom_35 : decode cX5_copyFrom 35 = .ok (.getfield 18, 3) := by decide +kernel
theorem dX5_copyFrom_38 : decode cX5_copyFrom 38 = .ok (.invokestatic 53, 3) := by decide +kernel
theorem dX5_copyFrom_41 : decode cX5_copyFrom 41 = .ok (.aload_n 1, 1) := by decide +kernel
theorem dX5_copyFrom_42 : decode cX5_copyFrom 42 = .ok (.getfield 21, 3) := by decide +kernel
theorem dX5_copyFrom_45 : decode cX5_copyFrom 45 = .ok (.aload_n 0, 1) := by decide +kernel
theorem dX5_copyFrom_46 : decode cX5_copyFrom 46 = .ok (.getfield 21, 3) := by decide +kernel
theorem dX5_copyFrom_49 : decode cX5_copyFrom 49 = .ok (.invokestatic 53, 3) := by decide +kernel
theorem dX5_copyFrom_52 : decode cX5_copyFrom 52 = .ok (.aload_n 1, 1) := by decide +kernel
theorem dX5_copyFrom_53 : decode cX5_copyFrom 53 = .ok (.getfield 24, 3) := by decide +kernel
theorem dX5_copyFrom_56 : decode cX5_copyFrom 56 = .ok (.aload_n 0, 1) := by decide +kernel
theorem dX5_copyFrom_57 : decode cX5_copyFrom 57 = .ok (.getfield 24, 3) := by decide +kernel
theorem dX5_copyFrom_60 : decode cX5_copyFrom 60 = .ok (.invokestatic 53, 3) := by decide +kernel
theorem dX5_copyFrom_63 : decode cX5_copyFrom 63 = .ok (.aload_n 0, 1) := by decide +kernel
theorem dX5_copyFrom_64 : decode cX5_copyFrom 64 = .ok (.aload_n 1, 1) := by decide +kernel
theorem dX5_copyFrom_65 : decode cX5_copyFrom 65 = .ok (.getfield 57, 3) := by decide +kernel
theorem dX5_copyFrom_68 : decode cX5_copyFrom 68 = .ok (.putfield 57, 3) := by decide +kernel
theorem dX5_copyFrom_71 : decode cX5_copyFrom 71 = .ok (.aload_n 1, 1) := by decide +kernel
theorem dX5_copyFrom_72 : decode cX5_copyFrom 72 = .ok (.getfield 27, 3) := by decide +kernel
theorem dX5_copyFrom_75 : decode cX5_copyFrom 75 = .ok (.aload_n 0, 1) := by decide +kernel
theorem dX5_copyFrom_76 : decode cX5_copyFrom 76 = .ok (.getfield 27, 3) := by decide +kernel
theorem dX5_copyFrom_79 : decode cX5_copyFrom 79 = .ok (.invokestatic 53, 3) := by decide +kernel
theorem dX5_copyFrom_82 : decode cX5_copyFrom 82 = .ok (.aload_n 1, 1) := by decide +kernel
theorem dX5_copyFrom_83 : decode cX5_copyFrom 83 = .ok (.getfield 30, 3) := by decide +kernel
theorem dX5_copyFrom_86 : decode cX5_copyFrom 86 = .ok (.aload_n 0, 1) := by decide +kernel
theorem dX5_copyFrom_87 : decode cX5_copyFrom 87 = .ok (.getfield 30, 3) := by decide +kernel
theorem dX5_copyFrom_90 : decode cX5_copyFrom 90 = .ok (.invokestatic 53, 3) := by decide +kernel
theorem dX5_copyFrom_93 : decode cX5_copyFrom 93 = .ok (.aload_n 0, 1) := by decide +kernel
theorem dX5_copyFrom_94 : decode cX5_copyFrom 94 = .ok (.aload_n 1, 1) := by decide +kernel
theorem dX5_copyFrom_95 : decode cX5_copyFrom 95 = .ok (.getfield 60, 3) := by decide +kernel
theorem dX5_copyFrom_98 : decode cX5_copyFrom 98 = .ok (.putfield 60, 3) := by decide +kernel
theorem dX5_copyFrom_101 : decode cX5_copyFrom 101 = .ok (.aload_n 1, 1) := by decide +kernel
theorem dX5_copyFrom_102 : decode cX5_copyFrom 102 = .ok (.getfield 33, 3) := by decide +kernel
theorem dX5_copyFrom_105 : decode cX5_copyFrom 105 = .ok (.aload_n 0, 1) := by decide +kernel
theorem dX5_copyFrom_106 : decode cX5_copyFrom 106 = .ok (.getfield 33, 3) := by decide +kernel
theorem dX5_copyFrom_109 : decode cX5_copyFrom 109 = .ok (.invokestatic 53, 3) := by decide +kernel
theorem dX5_copyFrom_112 : decode cX5_copyFrom 112 = .ok (.aload_n 1, 1) := by decide +kernel
theorem dX5_copyFrom_113 : decode cX5_copyFrom 113 = .ok (.getfield 36, 3) := by decide +kernel
theorem dX5_copyFrom_116 : decode cX5_copyFrom 116 = .ok (.aload_n 0, 1) := by decide +kernel
theorem dX5_copyFrom_117 : decode cX5_copyFrom 117 = .ok (.getfield 36, 3) := by decide +kernel
theorem dX5_copyFrom_120 : decode cX5_copyFrom 120 = .ok (.invokestatic 53, 3) := by decide +kernel
theorem dX5_copyFrom_123 : decode cX5_copyFrom 123 = .ok (.aload_n 1, 1) := by decide +kernel
theorem dX5_copyFrom_124 : decode cX5_copyFrom 124 = .ok (.getfield 39, 3) := by decide +kernel
theorem dX5_copyFrom_127 : decode cX5_copyFrom 127 = .ok (.aload_n 0, 1) := by decide +kernel
theorem dX5_copyFrom_128 : decode cX5_copyFrom 128 = .ok (.getfield 39, 3) := by decide +kernel
theorem dX5_copyFrom_131 : decode cX5_copyFrom 131 = .ok (.invokestatic 53, 3) := by decide +kernel
theorem dX5_copyFrom_134 : decode cX5_copyFrom 134 = .ok (.aload_n 1, 1) := by decide +kernel
theorem dX5_copyFrom_135 : decode cX5_copyFrom 135 = .ok (.getfield 42, 3) := by decide +kernel
theorem dX5_copyFrom_138 : decode cX5_copyFrom 138 = .ok (.aload_n 0, 1) := by decide +kernel
theorem dX5_copyFrom_139 : decode cX5_copyFrom 139 = .ok (.getfield 42, 3) := by decide +kernel
theorem dX5_copyFrom_142 : decode cX5_copyFrom 142 = .ok (.invokestatic 53, 3) := by decide +kernel
theorem dX5_copyFrom_145 : decode cX5_copyFrom 145 = .ok (.aload_n 0, 1) := by decide +kernel
theorem dX5_copyFrom_146 : decode cX5_copyFrom 146 = .ok (.aload_n 1, 1) := by decide +kernel
theorem dX5_copyFrom_147 : decode cX5_copyFrom 147 = .ok (.getfield 63, 3) := by decide +kernel
theorem dX5_copyFrom_150 : decode cX5_copyFrom 150 = .ok (.putfield 63, 3) := by decide +kernel
theorem dX5_copyFrom_153 : decode cX5_copyFrom 153 = .ok (.aload_n 0, 1) := by decide +kernel
theorem dX5_copyFrom_154 : decode cX5_copyFrom 154 = .ok (.aload_n 1, 1) := by decide +kernel
theorem dX5_copyFrom_155 : decode cX5_copyFrom 155 = .ok (.getfield 66, 3) := by decide +kernel
theorem dX5_copyFrom_158 : decode cX5_copyFrom 158 = .ok (.putfield 66, 3) := by decide +kernel
theorem dX5_copyFrom_161 : decode cX5_copyFrom 161 = .ok (.return_, 1) := by decide +kernel
theorem dX5_appendBox_0 : decode cX5_appendBox 0 = .ok (.aload_n 0, 1) := by decide +kernel
theorem dX5_appendBox_1 : decode cX5_appendBox 1 = .ok (.getfield 45, 3) := by decide +kernel
theorem dX5_appendBox_4 : decode cX5_appendBox 4 = .ok (.istore 4, 2) := by decide +kernel
theorem dX5_appendBox_6 : decode cX5_appendBox 6 = .ok (.aload_n 0, 1) := by decide +kernel
theorem dX5_appendBox_7 : decode cX5_appendBox 7 = .ok (.getfield 9, 3) := by decide +kernel
theorem dX5_appendBox_10 : decode cX5_appendBox 10 = .ok (.iload 4, 2) := by decide +kernel
theorem dX5_appendBox_12 : decode cX5_appendBox 12 = .ok (.iload_n 1, 1) := by decide +kernel
theorem dX5_appendBox_13 : decode cX5_appendBox 13 = .ok (.invokestatic 49, 3) := by decide +kernel
theorem dX5_appendBox_16 : decode cX5_appendBox 16 = .ok (.aload_n 0, 1) := by decide +kernel
theorem dX5_appendBox_17 : decode cX5_appendBox 17 = .ok (.getfield 15, 3) := by decide +kernel
theorem dX5_appendBox_20 : decode cX5_appendBox 20 = .ok (.iload 4, 2) := by decide +kernel
theorem dX5_appendBox_22 : decode cX5_appendBox 22 = .ok (.iload_n 2, 1) := by decide +kernel
theorem dX5_appendBox_23 : decode cX5_appendBox 23 = .ok (.invokestatic 49, 3) := by decide +kernel
theorem dX5_appendBox_26 : decode cX5_appendBox 26 = .ok (.aload_n 0, 1) := by decide +kernel
theorem dX5_appendBox_27 : decode cX5_appendBox 27 = .ok (.getfield 18, 3) := by decide +kernel
theorem dX5_appendBox_30 : decode cX5_appendBox 30 = .ok (.iload 4, 2) := by decide +kernel
theorem dX5_appendBox_32 : decode cX5_appendBox 32 = .ok (.iload_n 3, 1) := by decide +kernel
theorem dX5_appendBox_33 : decode cX5_appendBox 33 = .ok (.invokestatic 49, 3) := by decide +kernel
theorem dX5_appendBox_36 : decode cX5_appendBox 36 = .ok (.aload_n 0, 1) := by decide +kernel
theorem dX5_appendBox_37 : decode cX5_appendBox 37 = .ok (.getfield 21, 3) := by decide +kernel
theorem dX5_appendBox_40 : decode cX5_appendBox 40 = .ok (.iload 4, 2) := by decide +kernel
theorem dX5_appendBox_42 : decode cX5_appendBox 42 = .ok (.iconst 0, 1) := by decide +kernel
theorem dX5_appendBox_43 : decode cX5_appendBox 43 = .ok (.invokestatic 49, 3) := by decide +kernel
theorem dX5_appendBox_46 : decode cX5_appendBox 46 = .ok (.aload_n 0, 1) := by decide +kernel
theorem dX5_appendBox_47 : decode cX5_appendBox 47 = .ok (.getfield 24, 3) := by decide +kernel
theorem dX5_appendBox_50 : decode cX5_appendBox 50 = .ok (.iload 4, 2) := by decide +kernel
theorem dX5_appendBox_52 : decode cX5_appendBox 52 = .ok (.iconst 0, 1) := by decide +kernel
theorem dX5_appendBox_53 : decode cX5_appendBox 53 = .ok (.invokestatic 49, 3) := by decide +kernel
theorem dX5_appendBox_56 : decode cX5_appendBox 56 = .ok (.aload_n 0, 1) := by decide +kernel
theorem dX5_appendBox_57 : decode cX5_appendBox 57 = .ok (.dup, 1) := by decide +kernel
theorem dX5_appendBox_58 : decode cX5_appendBox 58 = .ok (.getfield 45, 3) := by decide +kernel
theorem dX5_appendBox_61 : decode cX5_appendBox 61 = .ok (.iconst 1, 1) := by decide +kernel
theorem dX5_appendBox_62 : decode cX5_appendBox 62 = .ok (.iadd, 1) := by decide +kernel
theorem dX5_appendBox_63 : decode cX5_appendBox 63 = .ok (.putfield 45, 3) := by decide +kernel
theorem dX5_appendBox_66 : decode cX5_appendBox 66 = .ok (.iload 4, 2) := by decide +kernel
theorem dX5_appendBox_68 : decode cX5_appendBox 68 = .ok (.ireturn, 1) := by decide +kernel
theorem dX5_appendProp_0 : decode cX5_appendProp 0 = .ok (.aload_n 0, 1) := by decide +kernel
theorem dX5_appendProp_1 : decode cX5_appendProp 1 = .ok (.getfield 57, 3) := by decide +kernel
theorem dX5_appendProp_4 : decode cX5_appendProp 4 = .ok (.istore_n 2, 1) := by decide +kernel
theorem dX5_appendProp_5 : decode cX5_appendProp 5 = .ok (.aload_n 0, 1) := by decide +kernel
theorem dX5_appendProp_6 : decode cX5_appendProp 6 = .ok (.getfield 27, 3) := by decide +kernel
theorem dX5_appendProp_9 : decode cX5_appendProp 9 = .ok (.iload_n 2, 1) := by decide +kernel
theorem dX5_appendProp_10 : decode cX5_appendProp 10 = .ok (.iload_n 1, 1) := by decide +kernel
theorem dX5_appendProp_11 : decode cX5_appendProp 11 = .ok (.invokestatic 49, 3) := by decide +kernel
theorem dX5_appendProp_14 : decode cX5_appendProp 14 = .ok (.aload_n 0, 1) := by decide +kernel
theorem dX5_appendProp_15 : decode cX5_appendProp 15 = .ok (.getfield 30, 3) := by decide +kernel
theorem dX5_appendProp_18 : decode cX5_appendProp 18 = .ok (.iload_n 2, 1) := by decide +kernel
theorem dX5_appendProp_19 : decode cX5_appendProp 19 = .ok (.iload_n 1, 1) := by decide +kernel
theorem dX5_appendProp_20 : decode cX5_appendProp 20 = .ok (.invokestatic 49, 3) := by decide +kernel
theorem dX5_appendProp_23 : decode cX5_appendProp 23 = .ok (.aload_n 0, 1) := by decide +kernel
theorem dX5_appendProp_24 : decode cX5_appendProp 24 = .ok (.dup, 1) := by decide +kernel
theorem dX5_appendProp_25 : decode cX5_appendProp 25 = .ok (.getfield 57, 3) := by decide +kernel
theorem dX5_appendProp_28 : decode cX5_appendProp 28 = .ok (.iconst 1, 1) := by decide +kernel
theorem dX5_appendProp_29 : decode cX5_appendProp 29 = .ok (.iadd, 1) := by decide +kernel
theorem dX5_appendProp_30 : decode cX5_appendProp 30 = .ok (.putfield 57, 3) := by decide +kernel
theorem dX5_appendProp_33 : decode cX5_appendProp 33 = .ok (.iload_n 2, 1) := by decide +kernel
theorem dX5_appendProp_34 : decode cX5_appendProp 34 = .ok (.ireturn, 1) := by decide +kernel
theorem dX5_appendClue_0 : decode cX5_appendClue 0 = .ok (.aload_n 0, 1) := by decide +kernel
theorem dX5_appendClue_1 : decode cX5_appendClue 1 = .ok (.getfield 60, 3) := by decide +kernel
theorem dX5_appendClue_4 : decode cX5_appendClue 4 = .ok (.istore 4, 2) := by decide +kernel
theorem dX5_appendClue_6 : decode cX5_appendClue 6 = .ok (.aload_n 0, 1) := by decide +kernel
theorem dX5_appendClue_7 : decode cX5_appendClue 7 = .ok (.getfield 33, 3) := by decide +kernel
theorem dX5_appendClue_10 : decode cX5_appendClue 10 = .ok (.iload 4, 2) := by decide +kernel
theorem dX5_appendClue_12 : decode cX5_appendClue 12 = .ok (.iload_n 1, 1) := by decide +kernel
theorem dX5_appendClue_13 : decode cX5_appendClue 13 = .ok (.invokestatic 49, 3) := by decide +kernel
theorem dX5_appendClue_16 : decode cX5_appendClue 16 = .ok (.aload_n 0, 1) := by decide +kernel
theorem dX5_appendClue_17 : decode cX5_appendClue 17 = .ok (.getfield 36, 3) := by decide +kernel
theorem dX5_appendClue_20 : decode cX5_appendClue 20 = .ok (.iload 4, 2) := by decide +kernel
theorem dX5_appendClue_22 : decode cX5_appendClue 22 = .ok (.iload_n 2, 1) := by decide +kernel
theorem dX5_appendClue_23 : decode cX5_appendClue 23 = .ok (.invokestatic 49, 3) := by decide +kernel
theorem dX5_appendClue_26 : decode cX5_appendClue 26 = .ok (.aload_n 0, 1) := by decide +kernel
theorem dX5_appendClue_27 : decode cX5_appendClue 27 = .ok (.getfield 39, 3) := by decide +kernel
theorem dX5_appendClue_30 : decode cX5_appendClue 30 = .ok (.iload 4, 2) := by decide +kernel
theorem dX5_appendClue_32 : decode cX5_appendClue 32 = .ok (.iload_n 3, 1) := by decide +kernel
theorem dX5_appendClue_33 : decode cX5_appendClue 33 = .ok (.invokestatic 49, 3) := by decide +kernel
theorem dX5_appendClue_36 : decode cX5_appendClue 36 = .ok (.aload_n 0, 1) := by decide +kernel
theorem dX5_appendClue_37 : decode cX5_appendClue 37 = .ok (.getfield 42, 3) := by decide +kernel
theorem dX5_appendClue_40 : decode cX5_appendClue 40 = .ok (.iload 4, 2) := by decide +kernel
theorem dX5_appendClue_42 : decode cX5_appendClue 42 = .ok (.bipush 9, 2) := by decide +kernel
theorem dX5_appendClue_44 : decode cX5_appendClue 44 = .ok (.invokestatic 49, 3) := by decide +kernel
theorem dX5_appendClue_47 : decode cX5_appendClue 47 = .ok (.aload_n 0, 1) := by decide +kernel
theorem dX5_appendClue_48 : decode cX5_appendClue 48 = .ok (.dup, 1) := by decide +kernel
theorem dX5_appendClue_49 : decode cX5_appendClue 49 = .ok (.getfield 60, 3) := by decide +kernel
theorem dX5_appendClue_52 : decode cX5_appendClue 52 = .ok (.iconst 1, 1) := by decide +kernel
theorem dX5_appendClue_53 : decode cX5_appendClue 53 = .ok (.iadd, 1) := by decide +kernel
theorem dX5_appendClue_54 : decode cX5_appendClue 54 = .ok (.putfield 60, 3) := by decide +kernel
theorem dX5_appendClue_57 : decode cX5_appendClue 57 = .ok (.iload 4, 2) := by decide +kernel
theorem dX5_appendClue_59 : decode cX5_appendClue 59 = .ok (.ireturn, 1) := by decide +kernel
theorem dX5_hasBox_0 : decode cX5_hasBox 0 = .ok (.iload_n 1, 1) := by decide +kernel
theorem dX5_hasBox_1 : decode cX5_hasBox 1 = .ok (.ifCond .lt 15, 3) := by decide +kernel
theorem dX5_hasBox_4 : decode cX5_hasBox 4 = .ok (.iload_n 1, 1) := by decide +kernel
theorem dX5_hasBox_5 : decode cX5_hasBox 5 = .ok (.aload_n 0, 1) := by decide +kernel
theorem dX5_hasBox_6 : decode cX5_hasBox 6 = .ok (.getfield 45, 3) := by decide +kernel
theorem dX5_hasBox_9 : decode cX5_hasBox 9 = .ok (.if_icmp .ge 7, 3) := by decide +kernel
theorem dX5_hasBox_12 : decode cX5_hasBox 12 = .ok (.iconst 1, 1) := by decide +kernel
theorem dX5_hasBox_13 : decode cX5_hasBox 13 = .ok (.goto 4, 3) := by decide +kernel
theorem dX5_hasBox_16 : decode cX5_hasBox 16 = .ok (.iconst 0, 1) := by decide +kernel
theorem dX5_hasBox_17 : decode cX5_hasBox 17 = .ok (.ireturn, 1) := by decide +kernel
theorem dX5_hasProp_0 : decode cX5_hasProp 0 = .ok (.iload_n 1, 1) := by decide +kernel
theorem dX5_hasProp_1 : decode cX5_hasProp 1 = .ok (.ifCond .lt 15, 3) := by decide +kernel
theorem dX5_hasProp_4 : decode cX5_hasProp 4 = .ok (.iload_n 1, 1) := by decide +kernel
theorem dX5_hasProp_5 : decode cX5_hasProp 5 = .ok (.aload_n 0, 1) := by decide +kernel
theorem dX5_hasProp_6 : decode cX5_hasProp 6 = .ok (.getfield 57, 3) := by decide +kernel
theorem dX5_hasProp_9 : decode cX5_hasProp 9 = .ok (.if_icmp .ge 7, 3) := by decide +kernel
theorem dX5_hasProp_12 : decode cX5_hasProp 12 = .ok (.iconst 1, 1) := by decide +kernel
theorem dX5_hasProp_13 : decode cX5_hasProp 13 = .ok (.goto 4, 3) := by decide +kernel
theorem dX5_hasProp_16 : decode cX5_hasProp 16 = .ok (.iconst 0, 1) := by decide +kernel
theorem dX5_hasProp_17 : decode cX5_hasProp 17 = .ok (.ireturn, 1) := by decide +kernel
theorem dX5_hasClue_0 : decode cX5_hasClue 0 = .ok (.iload_n 1, 1) := by decide +kernel
theorem dX5_hasClue_1 : decode cX5_hasClue 1 = .ok (.ifCond .lt 15, 3) := by decide +kernel
theorem dX5_hasClue_4 : decode cX5_hasClue 4 = .ok (.iload_n 1, 1) := by decide +kernel
theorem dX5_hasClue_5 : decode cX5_hasClue 5 = .ok (.aload_n 0, 1) := by decide +kernel
theorem dX5_hasClue_6 : decode cX5_hasClue 6 = .ok (.getfield 60, 3) := by decide +kernel
theorem dX5_hasClue_9 : decode cX5_hasClue 9 = .ok (.if_icmp .ge 7, 3) := by decide +kernel
theorem dX5_hasClue_12 : decode cX5_hasClue 12 = .ok (.iconst 1, 1) := by decide +kernel
theorem dX5_hasClue_13 : decode cX5_hasClue 13 = .ok (.goto 4, 3) := by decide +kernel
theorem dX5_hasClue_16 : decode cX5_hasClue 16 = .ok (.iconst 0, 1) := by decide +kernel
theorem dX5_hasClue_17 : decode cX5_hasClue 17 = .ok (.ireturn, 1) := by decide +kernel
theorem dX5_hasLock_0 : decode cX5_hasLock 0 = .ok (.iload_n 1, 1) := by decide +kernel
theorem dX5_hasLock_1 : decode cX5_hasLock 1 = .ok (.ifCond .le 19, 3) := by decide +kernel
theorem dX5_hasLock_4 : decode cX5_hasLock 4 = .ok (.aload_n 0, 1) := by decide +kernel
theorem dX5_hasLock_5 : decode cX5_hasLock 5 = .ok (.getfield 15, 3) := by decide +kernel
theorem dX5_hasLock_8 : decode cX5_hasLock 8 = .ok (.iload_n 1, 1) := by decide +kernel
theorem dX5_hasLock_9 : decode cX5_hasLock 9 = .ok (.invokestatic 69, 3) := by decide +kernel
theorem dX5_hasLock_12 : decode cX5_hasLock 12 = .ok (.iload_n 2, 1) := by decide +kernel
theorem dX5_hasLock_13 : decode cX5_hasLock 13 = .ok (.if_icmp .ne 7, 3) := by decide +kernel
theorem dX5_hasLock_16 : decode cX5_hasLock 16 = .ok (.iconst 1, 1) := by decide +kernel
theorem dX5_hasLock_17 : decode cX5_hasLock 17 = .ok (.goto 4, 3) := by decide +kernel
theorem dX5_hasLock_20 : decode cX5_hasLock 20 = .ok (.iconst 0, 1) := by decide +kernel
theorem dX5_hasLock_21 : decode cX5_hasLock 21 = .ok (.ireturn, 1) := by decide +kernel
theorem dX5_isOpen_0 : decode cX5_isOpen 0 = .ok (.aload_n 0, 1) := by decide +kernel
theorem dX5_isOpen_1 : decode cX5_isOpen 1 = .ok (.getfield 21, 3) := by decide +kernel
theorem dX5_isOpen_4 : decode cX5_isOpen 4 = .ok (.iload_n 1, 1) := by decide +kernel
theorem dX5_isOpen_5 : decode cX5_isOpen 5 = .ok (.invokestatic 69, 3) := by decide +kernel
theorem dX5_isOpen_8 : decode cX5_isOpen 8 = .ok (.iconst 1, 1) := by decide +kernel
theorem dX5_isOpen_9 : decode cX5_isOpen 9 = .ok (.if_icmp .ne 7, 3) := by decide +kernel
theorem dX5_isOpen_12 : decode cX5_isOpen 12 = .ok (.iconst 1, 1) := by decide +kernel
theorem dX5_isOpen_13 : decode cX5_isOpen 13 = .ok (.goto 4, 3) := by decide +kernel
theorem dX5_isOpen_16 : decode cX5_isOpen 16 = .ok (.iconst 0, 1) := by decide +kernel
theorem dX5_isOpen_17 : decode cX5_isOpen 17 = .ok (.ireturn, 1) := by decide +kernel
theorem dX5_isHeld_0 : decode cX5_isHeld 0 = .ok (.aload_n 0, 1) := by decide +kernel
theorem dX5_isHeld_1 : decode cX5_isHeld 1 = .ok (.getfield 30, 3) := by decide +kernel
theorem dX5_isHeld_4 : decode cX5_isHeld 4 = .ok (.iload_n 1, 1) := by decide +kernel
theorem dX5_isHeld_5 : decode cX5_isHeld 5 = .ok (.invokestatic 69, 3) := by decide +kernel
theorem dX5_isHeld_8 : decode cX5_isHeld 8 = .ok (.iconst (-1), 1) := by decide +kernel
theorem dX5_isHeld_9 : decode cX5_isHeld 9 = .ok (.if_icmp .ne 7, 3) := by decide +kernel
theorem dX5_isHeld_12 : decode cX5_isHeld 12 = .ok (.iconst 1, 1) := by decide +kernel
theorem dX5_isHeld_13 : decode cX5_isHeld 13 = .ok (.goto 4, 3) := by decide +kernel
theorem dX5_isHeld_16 : decode cX5_isHeld 16 = .ok (.iconst 0, 1) := by decide +kernel
theorem dX5_isHeld_17 : decode cX5_isHeld 17 = .ok (.ireturn, 1) := by decide +kernel
theorem dX5_outermostClosed_0 : decode cX5_outermostClosed 0 = .ok (.iconst 0, 1) := by decide +kernel
theorem dX5_outermostClosed_1 : decode cX5_outermostClosed 1 = .ok (.istore_n 2, 1) := by decide +kernel
theorem dX5_outermostClosed_2 : decode cX5_outermostClosed 2 = .ok (.iload_n 1, 1) := by decide +kernel
theorem dX5_outermostClosed_3 : decode cX5_outermostClosed 3 = .ok (.istore_n 3, 1) := by decide +kernel
theorem dX5_outermostClosed_4 : decode cX5_outermostClosed 4 = .ok (.iconst 0, 1) := by decide +kernel
theorem dX5_outermostClosed_5 : decode cX5_outermostClosed 5 = .ok (.istore 4, 2) := by decide +kernel
theorem dX5_outermostClosed_7 : decode cX5_outermostClosed 7 = .ok (.iload 4, 2) := by decide +kernel
theorem dX5_outermostClosed_9 : decode cX5_outermostClosed 9 = .ok (.bipush 12, 2) := by decide +kernel
theorem dX5_outermostClosed_11 : decode cX5_outermostClosed 11 = .ok (.if_icmp .ge 35, 3) := by decide +kernel
theorem dX5_outermostClosed_14 : decode cX5_outermostClosed 14 = .ok (.iload_n 3, 1) := by decide +kernel
theorem dX5_outermostClosed_15 : decode cX5_outermostClosed 15 = .ok (.ifCond .le 31, 3) := by decide +kernel
theorem dX5_outermostClosed_18 : decode cX5_outermostClosed 18 = .ok (.aload_n 0, 1) := by decide +kernel
theorem dX5_outermostClosed_19 : decode cX5_outermostClosed 19 = .ok (.getfield 21, 3) := by decide +kernel
theorem dX5_outermostClosed_22 : decode cX5_outermostClosed 22 = .ok (.iload_n 3, 1) := by decide +kernel
theorem dX5_outermostClosed_23 : decode cX5_outermostClosed 23 = .ok (.invokestatic 69, 3) := by decide +kernel
theorem dX5_outermostClosed_26 : decode cX5_outermostClosed 26 = .ok (.ifCond .ne 5, 3) := by decide +kernel
theorem dX5_outermostClosed_29 : decode cX5_outermostClosed 29 = .ok (.iload_n 3, 1) := by decide +kernel
theorem dX5_outermostClosed_30 : decode cX5_outermostClosed 30 = .ok (.istore_n 2, 1) := by decide +kernel
theorem dX5_outermostClosed_31 : decode cX5_outermostClosed 31 = .ok (.aload_n 0, 1) := by decide +kernel
theorem dX5_outermostClosed_32 : decode cX5_outermostClosed 32 = .ok (.getfield 9, 3) := by decide +kernel
theorem dX5_outermostClosed_35 : decode cX5_outermostClosed 35 = .ok (.iload_n 3, 1) := by decide +kernel
theorem dX5_outermostClosed_36 : decode cX5_outermostClosed 36 = .ok (.invokestatic 69, 3) := by decide +kernel
theorem dX5_outermostClosed_39 : decode cX5_outermostClosed 39 = .ok (.istore_n 3, 1) := by decide +kernel
theorem dX5_outermostClosed_40 : decode cX5_outermostClosed 40 = .ok (.iinc 4 1, 3) := by decide +kernel
theorem dX5_outermostClosed_43 : decode cX5_outermostClosed 43 = .ok (.goto (-36), 3) := by decide +kernel
theorem dX5_outermostClosed_46 : decode cX5_outermostClosed 46 = .ok (.iload_n 2, 1) := by decide +kernel
theorem dX5_outermostClosed_47 : decode cX5_outermostClosed 47 = .ok (.ireturn, 1) := by decide +kernel
theorem dX5_boxAtHand_0 : decode cX5_boxAtHand 0 = .ok (.iload_n 1, 1) := by decide +kernel
theorem dX5_boxAtHand_1 : decode cX5_boxAtHand 1 = .ok (.ifCond .eq 18, 3) := by decide +kernel
theorem dX5_boxAtHand_4 : decode cX5_boxAtHand 4 = .ok (.aload_n 0, 1) := by decide +kernel
theorem dX5_boxAtHand_5 : decode cX5_boxAtHand 5 = .ok (.aload_n 0, 1) := by decide +kernel
theorem dX5_boxAtHand_6 : decode cX5_boxAtHand 6 = .ok (.getfield 9, 3) := by decide +kernel
theorem dX5_boxAtHand_9 : decode cX5_boxAtHand 9 = .ok (.iload_n 1, 1) := by decide +kernel
theorem dX5_boxAtHand_10 : decode cX5_boxAtHand 10 = .ok (.invokestatic 69, 3) := by decide +kernel
theorem dX5_boxAtHand_13 : decode cX5_boxAtHand 13 = .ok (.invokevirtual 73, 3) := by decide +kernel
theorem dX5_boxAtHand_16 : decode cX5_boxAtHand 16 = .ok (.ifCond .ne 7, 3) := by decide +kernel
theorem dX5_boxAtHand_19 : decode cX5_boxAtHand 19 = .ok (.iconst 1, 1) := by decide +kernel
theorem dX5_boxAtHand_20 : decode cX5_boxAtHand 20 = .ok (.goto 4, 3) := by decide +kernel
theorem dX5_boxAtHand_23 : decode cX5_boxAtHand 23 = .ok (.iconst 0, 1) := by decide +kernel
theorem dX5_boxAtHand_24 : decode cX5_boxAtHand 24 = .ok (.ireturn, 1) := by decide +kernel
theorem dX5_propAtHand_0 : decode cX5_propAtHand 0 = .ok (.aload_n 0, 1) := by decide +kernel
theorem dX5_propAtHand_1 : decode cX5_propAtHand 1 = .ok (.aload_n 0, 1) := by decide +kernel
theorem dX5_propAtHand_2 : decode cX5_propAtHand 2 = .ok (.getfield 30, 3) := by decide +kernel
theorem dX5_propAtHand_5 : decode cX5_propAtHand 5 = .ok (.iload_n 1, 1) := by decide +kernel
theorem dX5_propAtHand_6 : decode cX5_propAtHand 6 = .ok (.invokestatic 69, 3) := by decide +kernel
theorem dX5_propAtHand_9 : decode cX5_propAtHand 9 = .ok (.invokevirtual 73, 3) := by decide +kernel
theorem dX5_propAtHand_12 : decode cX5_propAtHand 12 = .ok (.ifCond .ne 7, 3) := by decide +kernel
theorem dX5_propAtHand_15 : decode cX5_propAtHand 15 = .ok (.iconst 1, 1) := by decide +kernel
theorem dX5_propAtHand_16 : decode cX5_propAtHand 16 = .ok (.goto 4, 3) := by decide +kernel
theorem dX5_propAtHand_19 : decode cX5_propAtHand 19 = .ok (.iconst 0, 1) := by decide +kernel
theorem dX5_propAtHand_20 : decode cX5_propAtHand 20 = .ok (.ireturn, 1) := by decide +kernel
theorem dX5_clueAtHand_0 : decode cX5_clueAtHand 0 = .ok (.aload_n 0, 1) := by decide +kernel
theorem dX5_clueAtHand_1 : decode cX5_clueAtHand 1 = .ok (.aload_n 0, 1) := by decide +kernel
theorem dX5_clueAtHand_2 : decode cX5_clueAtHand 2 = .ok (.getfield 30, 3) := by decide +kernel
theorem dX5_clueAtHand_5 : decode cX5_clueAtHand 5 = .ok (.aload_n 0, 1) := by decide +kernel
theorem dX5_clueAtHand_6 : decode cX5_clueAtHand 6 = .ok (.getfield 33, 3) := by decide +kernel
theorem dX5_clueAtHand_9 : decode cX5_clueAtHand 9 = .ok (.iload_n 1, 1) := by decide +kernel
theorem dX5_clueAtHand_10 : decode cX5_clueAtHand 10 = .ok (.invokestatic 69, 3) := by decide +kernel
theorem dX5_clueAtHand_13 : decode cX5_clueAtHand 13 = .ok (.invokestatic 69, 3) := by decide +kernel
theorem dX5_clueAtHand_16 : decode cX5_clueAtHand 16 = .ok (.invokevirtual 73, 3) := by decide +kernel
theorem dX5_clueAtHand_19 : decode cX5_clueAtHand 19 = .ok (.ifCond .ne 7, 3) := by decide +kernel
theorem dX5_clueAtHand_22 : decode cX5_clueAtHand 22 = .ok (.iconst 1, 1) := by decide +kernel
theorem dX5_clueAtHand_23 : decode cX5_clueAtHand 23 = .ok (.goto 4, 3) := by decide +kernel
theorem dX5_clueAtHand_26 : decode cX5_clueAtHand 26 = .ok (.iconst 0, 1) := by decide +kernel
theorem dX5_clueAtHand_27 : decode cX5_clueAtHand 27 = .ok (.ireturn, 1) := by decide +kernel
theorem dX5_canBeOpened_0 : decode cX5_canBeOpened 0 = .ok (.aload_n 0, 1) := by decide +kernel
theorem dX5_canBeOpened_1 : decode cX5_canBeOpened 1 = .ok (.iload_n 1, 1) := by decide +kernel
theorem dX5_canBeOpened_2 : decode cX5_canBeOpened 2 = .ok (.invokevirtual 77, 3) := by decide +kernel
theorem dX5_canBeOpened_5 : decode cX5_canBeOpened 5 = .ok (.ifCond .ne 11, 3) := by decide +kernel
theorem dX5_canBeOpened_8 : decode cX5_canBeOpened 8 = .ok (.aload_n 0, 1) := by decide +kernel
theorem dX5_canBeOpened_9 : decode cX5_canBeOpened 9 = .ok (.iload_n 1, 1) := by decide +kernel
theorem dX5_canBeOpened_10 : decode cX5_canBeOpened 10 = .ok (.invokevirtual 81, 3) := by decide +kernel
theorem dX5_canBeOpened_13 : decode cX5_canBeOpened 13 = .ok (.ifCond .ne 5, 3) := by decide +kernel
theorem dX5_canBeOpened_16 : decode cX5_canBeOpened 16 = .ok (.iconst 0, 1) := by decide +kernel
theorem dX5_canBeOpened_17 : decode cX5_canBeOpened 17 = .ok (.ireturn, 1) := by decide +kernel
theorem dX5_canBeOpened_18 : decode cX5_canBeOpened 18 = .ok (.aload_n 0, 1) := by decide +kernel
theorem dX5_canBeOpened_19 : decode cX5_canBeOpened 19 = .ok (.getfield 30, 3) := by decide +kernel
theorem dX5_canBeOpened_22 : decode cX5_canBeOpened 22 = .ok (.aload_n 0, 1) := by decide +kernel
theorem dX5_canBeOpened_23 : decode cX5_canBeOpened 23 = .ok (.getfield 18, 3) := by decide +kernel
theorem dX5_canBeOpened_26 : decode cX5_canBeOpened 26 = .ok (.iload_n 1, 1) := by decide +kernel
theorem dX5_canBeOpened_27 : decode cX5_canBeOpened 27 = .ok (.invokestatic 69, 3) := by decide +kernel
theorem dX5_canBeOpened_30 : decode cX5_canBeOpened 30 = .ok (.invokestatic 69, 3) := by decide +kernel
theorem dX5_canBeOpened_33 : decode cX5_canBeOpened 33 = .ok (.istore_n 2, 1) := by decide +kernel
theorem dX5_canBeOpened_34 : decode cX5_canBeOpened 34 = .ok (.aload_n 0, 1) := by decide +kernel
theorem dX5_canBeOpened_35 : decode cX5_canBeOpened 35 = .ok (.iload_n 1, 1) := by decide +kernel
theorem dX5_canBeOpened_36 : decode cX5_canBeOpened 36 = .ok (.iconst 1, 1) := by decide +kernel
theorem dX5_canBeOpened_37 : decode cX5_canBeOpened 37 = .ok (.invokevirtual 84, 3) := by decide +kernel
theorem dX5_canBeOpened_40 : decode cX5_canBeOpened 40 = .ok (.ifCond .eq 14, 3) := by decide +kernel
theorem dX5_canBeOpened_43 : decode cX5_canBeOpened 43 = .ok (.iload_n 2, 1) := by decide +kernel
theorem dX5_canBeOpened_44 : decode cX5_canBeOpened 44 = .ok (.iconst (-1), 1) := by decide +kernel
theorem dX5_canBeOpened_45 : decode cX5_canBeOpened 45 = .ok (.if_icmp .ne 7, 3) := by decide +kernel
theorem dX5_canBeOpened_48 : decode cX5_canBeOpened 48 = .ok (.iconst 1, 1) := by decide +kernel
theorem dX5_canBeOpened_49 : decode cX5_canBeOpened 49 = .ok (.goto 4, 3) := by decide +kernel
theorem dX5_canBeOpened_52 : decode cX5_canBeOpened 52 = .ok (.iconst 0, 1) := by decide +kernel
theorem dX5_canBeOpened_53 : decode cX5_canBeOpened 53 = .ok (.ireturn, 1) := by decide +kernel
theorem dX5_canBeOpened_54 : decode cX5_canBeOpened 54 = .ok (.aload_n 0, 1) := by decide +kernel
theorem dX5_canBeOpened_55 : decode cX5_canBeOpened 55 = .ok (.iload_n 1, 1) := by decide +kernel
theorem dX5_canBeOpened_56 : decode cX5_canBeOpened 56 = .ok (.iconst 3, 1) := by decide +kernel
theorem dX5_canBeOpened_57 : decode cX5_canBeOpened 57 = .ok (.invokevirtual 84, 3) := by decide +kernel
theorem dX5_canBeOpened_60 : decode cX5_canBeOpened 60 = .ok (.ifCond .eq 15, 3) := by decide +kernel
theorem dX5_canBeOpened_63 : decode cX5_canBeOpened 63 = .ok (.iload_n 2, 1) := by decide +kernel
theorem dX5_canBeOpened_64 : decode cX5_canBeOpened 64 = .ok (.aload_n 0, 1) := by decide +kernel
theorem dX5_canBeOpened_65 : decode cX5_canBeOpened 65 = .ok (.getfield 9, 3) := by decide +kernel
theorem dX5_canBeOpened_68 : decode cX5_canBeOpened 68 = .ok (.iload_n 1, 1) := by decide +kernel
theorem dX5_canBeOpened_69 : decode cX5_canBeOpened 69 = .ok (.invokestatic 69, 3) := by decide +kernel
theorem dX5_canBeOpened_72 : decode cX5_canBeOpened 72 = .ok (.if_icmp .ne 7, 3) := by decide +kernel
theorem dX5_canBeOpened_75 : decode cX5_canBeOpened 75 = .ok (.iconst 1, 1) := by decide +kernel
theorem dX5_canBeOpened_76 : decode cX5_canBeOpened 76 = .ok (.goto 4, 3) := by decide +kernel
theorem dX5_canBeOpened_79 : decode cX5_canBeOpened 79 = .ok (.iconst 0, 1) := by decide +kernel
theorem dX5_canBeOpened_80 : decode cX5_canBeOpened 80 = .ok (.ireturn, 1) := by decide +kernel
theorem dX5_propsIn_0 : decode cX5_propsIn 0 = .ok (.iconst 0, 1) := by decide +kernel
theorem dX5_propsIn_1 : decode cX5_propsIn 1 = .ok (.istore_n 2, 1) := by decide +kernel
theorem dX5_propsIn_2 : decode cX5_propsIn 2 = .ok (.iconst 0, 1) := by decide +kernel
theorem dX5_propsIn_3 : decode cX5_propsIn 3 = .ok (.istore_n 3, 1) := by decide +kernel
theorem dX5_propsIn_4 : decode cX5_propsIn 4 = .ok (.iload_n 3, 1) := by decide +kernel
theorem dX5_propsIn_5 : decode cX5_propsIn 5 = .ok (.aload_n 0, 1) := by decide +kernel
theorem dX5_propsIn_6 : decode cX5_propsIn 6 = .ok (.getfield 57, 3) := by decide +kernel
theorem dX5_propsIn_9 : decode cX5_propsIn 9 = .ok (.if_icmp .ge 24, 3) := by decide +kernel
theorem dX5_propsIn_12 : decode cX5_propsIn 12 = .ok (.aload_n 0, 1) := by decide +kernel
theorem dX5_propsIn_13 : decode cX5_propsIn 13 = .ok (.getfield 30, 3) := by decide +kernel
theorem dX5_propsIn_16 : decode cX5_propsIn 16 = .ok (.iload_n 3, 1) := by decide +kernel
theorem dX5_propsIn_17 : decode cX5_propsIn 17 = .ok (.invokestatic 69, 3) := by decide +kernel
theorem dX5_propsIn_20 : decode cX5_propsIn 20 = .ok (.iload_n 1, 1) := by decide +kernel
theorem dX5_propsIn_21 : decode cX5_propsIn 21 = .ok (.if_icmp .ne 6, 3) := by decide +kernel
theorem dX5_propsIn_24 : decode cX5_propsIn 24 = .ok (.iinc 2 1, 3) := by decide +kernel
theorem dX5_propsIn_27 : decode cX5_propsIn 27 = .ok (.iinc 3 1, 3) := by decide +kernel
theorem dX5_propsIn_30 : decode cX5_propsIn 30 = .ok (.goto (-26), 3) := by decide +kernel
theorem dX5_propsIn_33 : decode cX5_propsIn 33 = .ok (.iload_n 2, 1) := by decide +kernel
theorem dX5_propsIn_34 : decode cX5_propsIn 34 = .ok (.ireturn, 1) := by decide +kernel
theorem dX5_heldProps_0 : decode cX5_heldProps 0 = .ok (.aload_n 0, 1) := by decide +kernel
theorem dX5_heldProps_1 : decode cX5_heldProps 1 = .ok (.iconst (-1), 1) := by decide +kernel
theorem dX5_heldProps_2 : decode cX5_heldProps 2 = .ok (.invokevirtual 88, 3) := by decide +kernel
theorem dX5_heldProps_5 : decode cX5_heldProps 5 = .ok (.ireturn, 1) := by decide +kernel
theorem dX5_heldBits_0 : decode cX5_heldBits 0 = .ok (.iconst 0, 1) := by decide +kernel
theorem dX5_heldBits_1 : decode cX5_heldBits 1 = .ok (.istore_n 1, 1) := by decide +kernel
theorem dX5_heldBits_2 : decode cX5_heldBits 2 = .ok (.iconst 0, 1) := by decide +kernel
theorem dX5_heldBits_3 : decode cX5_heldBits 3 = .ok (.istore_n 2, 1) := by decide +kernel
theorem dX5_heldBits_4 : decode cX5_heldBits 4 = .ok (.iload_n 2, 1) := by decide +kernel
theorem dX5_heldBits_5 : decode cX5_heldBits 5 = .ok (.aload_n 0, 1) := by decide +kernel
theorem dX5_heldBits_6 : decode cX5_heldBits 6 = .ok (.getfield 57, 3) := by decide +kernel
theorem dX5_heldBits_9 : decode cX5_heldBits 9 = .ok (.if_icmp .ge 23, 3) := by decide +kernel
theorem dX5_heldBits_12 : decode cX5_heldBits 12 = .ok (.aload_n 0, 1) := by decide +kernel
theorem dX5_heldBits_13 : decode cX5_heldBits 13 = .ok (.iload_n 2, 1) := by decide +kernel
theorem dX5_heldBits_14 : decode cX5_heldBits 14 = .ok (.invokevirtual 91, 3) := by decide +kernel
theorem dX5_heldBits_17 : decode cX5_heldBits 17 = .ok (.ifCond .eq 9, 3) := by decide +kernel
theorem dX5_heldBits_20 : decode cX5_heldBits 20 = .ok (.iload_n 1, 1) := by decide +kernel
theorem dX5_heldBits_21 : decode cX5_heldBits 21 = .ok (.iconst 1, 1) := by decide +kernel
theorem dX5_heldBits_22 : decode cX5_heldBits 22 = .ok (.iload_n 2, 1) := by decide +kernel
theorem dX5_heldBits_23 : decode cX5_heldBits 23 = .ok (.ishl, 1) := by decide +kernel
theorem dX5_heldBits_24 : decode cX5_heldBits 24 = .ok (.ior, 1) := by decide +kernel
theorem dX5_heldBits_25 : decode cX5_heldBits 25 = .ok (.istore_n 1, 1) := by decide +kernel
theorem dX5_heldBits_26 : decode cX5_heldBits 26 = .ok (.iinc 2 1, 3) := by decide +kernel
theorem dX5_heldBits_29 : decode cX5_heldBits 29 = .ok (.goto (-25), 3) := by decide +kernel
theorem dX5_heldBits_32 : decode cX5_heldBits 32 = .ok (.iload_n 1, 1) := by decide +kernel
theorem dX5_heldBits_33 : decode cX5_heldBits 33 = .ok (.ireturn, 1) := by decide +kernel
theorem dX5_boxesIn_0 : decode cX5_boxesIn 0 = .ok (.iconst 0, 1) := by decide +kernel
theorem dX5_boxesIn_1 : decode cX5_boxesIn 1 = .ok (.istore_n 2, 1) := by decide +kernel
theorem dX5_boxesIn_2 : decode cX5_boxesIn 2 = .ok (.iconst 1, 1) := by decide +kernel
theorem dX5_boxesIn_3 : decode cX5_boxesIn 3 = .ok (.istore_n 3, 1) := by decide +kernel
theorem dX5_boxesIn_4 : decode cX5_boxesIn 4 = .ok (.iload_n 3, 1) := by decide +kernel
theorem dX5_boxesIn_5 : decode cX5_boxesIn 5 = .ok (.aload_n 0, 1) := by decide +kernel
theorem dX5_boxesIn_6 : decode cX5_boxesIn 6 = .ok (.getfield 45, 3) := by decide +kernel
theorem dX5_boxesIn_9 : decode cX5_boxesIn 9 = .ok (.if_icmp .ge 24, 3) := by decide +kernel
theorem dX5_boxesIn_12 : decode cX5_boxesIn 12 = .ok (.aload_n 0, 1) := by decide +kernel
theorem dX5_boxesIn_13 : decode cX5_boxesIn 13 = .ok (.getfield 9, 3) := by decide +kernel
theorem dX5_boxesIn_16 : decode cX5_boxesIn 16 = .ok (.iload_n 3, 1) := by decide +kernel
theorem dX5_boxesIn_17 : decode cX5_boxesIn 17 = .ok (.invokestatic 69, 3) := by decide +kernel
theorem dX5_boxesIn_20 : decode cX5_boxesIn 20 = .ok (.iload_n 1, 1) := by decide +kernel
theorem dX5_boxesIn_21 : decode cX5_boxesIn 21 = .ok (.if_icmp .ne 6, 3) := by decide +kernel
theorem dX5_boxesIn_24 : decode cX5_boxesIn 24 = .ok (.iinc 2 1, 3) := by decide +kernel
theorem dX5_boxesIn_27 : decode cX5_boxesIn 27 = .ok (.iinc 3 1, 3) := by decide +kernel
theorem dX5_boxesIn_30 : decode cX5_boxesIn 30 = .ok (.goto (-26), 3) := by decide +kernel
theorem dX5_boxesIn_33 : decode cX5_boxesIn 33 = .ok (.iload_n 2, 1) := by decide +kernel
theorem dX5_boxesIn_34 : decode cX5_boxesIn 34 = .ok (.ireturn, 1) := by decide +kernel
theorem dX5_cluesOn_0 : decode cX5_cluesOn 0 = .ok (.iconst 0, 1) := by decide +kernel
theorem dX5_cluesOn_1 : decode cX5_cluesOn 1 = .ok (.istore_n 2, 1) := by decide +kernel
theorem dX5_cluesOn_2 : decode cX5_cluesOn 2 = .ok (.iconst 0, 1) := by decide +kernel
theorem dX5_cluesOn_3 : decode cX5_cluesOn 3 = .ok (.istore_n 3, 1) := by decide +kernel
theorem dX5_cluesOn_4 : decode cX5_cluesOn 4 = .ok (.iload_n 3, 1) := by decide +kernel
theorem dX5_cluesOn_5 : decode cX5_cluesOn 5 = .ok (.aload_n 0, 1) := by decide +kernel
theorem dX5_cluesOn_6 : decode cX5_cluesOn 6 = .ok (.getfield 60, 3) := by decide +kernel
theorem dX5_cluesOn_9 : decode cX5_cluesOn 9 = .ok (.if_icmp .ge 24, 3) := by decide +kernel
theorem dX5_cluesOn_12 : decode cX5_cluesOn 12 = .ok (.aload_n 0, 1) := by decide +kernel
theorem dX5_cluesOn_13 : decode cX5_cluesOn 13 = .ok (.getfield 33, 3) := by decide +kernel
theorem dX5_cluesOn_16 : decode cX5_cluesOn 16 = .ok (.iload_n 3, 1) := by decide +kernel
theorem dX5_cluesOn_17 : decode cX5_cluesOn 17 = .ok (.invokestatic 69, 3) := by decide +kernel
theorem dX5_cluesOn_20 : decode cX5_cluesOn 20 = .ok (.iload_n 1, 1) := by decide +kernel
theorem dX5_cluesOn_21 : decode cX5_cluesOn 21 = .ok (.if_icmp .ne 6, 3) := by decide +kernel
theorem dX5_cluesOn_24 : decode cX5_cluesOn 24 = .ok (.iinc 2 1, 3) := by decide +kernel
theorem dX5_cluesOn_27 : decode cX5_cluesOn 27 = .ok (.iinc 3 1, 3) := by decide +kernel
theorem dX5_cluesOn_30 : decode cX5_cluesOn 30 = .ok (.goto (-26), 3) := by decide +kernel
theorem dX5_cluesOn_33 : decode cX5_cluesOn 33 = .ok (.iload_n 2, 1) := by decide +kernel
theorem dX5_cluesOn_34 : decode cX5_cluesOn 34 = .ok (.ireturn, 1) := by decide +kernel
theorem dX5_locksWith_0 : decode cX5_locksWith 0 = .ok (.iconst 0, 1) := by decide +kernel
theorem dX5_locksWith_1 : decode cX5_locksWith 1 = .ok (.istore_n 2, 1) := by decide +kernel
theorem dX5_locksWith_2 : decode cX5_locksWith 2 = .ok (.iconst 1, 1) := by decide +kernel
theorem dX5_locksWith_3 : decode cX5_locksWith 3 = .ok (.istore_n 3, 1) := by decide +kernel
theorem dX5_locksWith_4 : decode cX5_locksWith 4 = .ok (.iload_n 3, 1) := by decide +kernel
theorem dX5_locksWith_5 : decode cX5_locksWith 5 = .ok (.aload_n 0, 1) := by decide +kernel
theorem dX5_locksWith_6 : decode cX5_locksWith 6 = .ok (.getfield 45, 3) := by decide +kernel
theorem dX5_locksWith_9 : decode cX5_locksWith 9 = .ok (.if_icmp .ge 42, 3) := by decide +kernel
theorem dX5_locksWith_12 : decode cX5_locksWith 12 = .ok (.aload_n 0, 1) := by decide +kernel
theorem dX5_locksWith_13 : decode cX5_locksWith 13 = .ok (.iload_n 3, 1) := by decide +kernel
theorem dX5_locksWith_14 : decode cX5_locksWith 14 = .ok (.iconst 1, 1) := by decide +kernel
theorem dX5_locksWith_15 : decode cX5_locksWith 15 = .ok (.invokevirtual 84, 3) := by decide +kernel
theorem dX5_locksWith_18 : decode cX5_locksWith 18 = .ok (.ifCond .ne 12, 3) := by decide +kernel
theorem dX5_locksWith_21 : decode cX5_locksWith 21 = .ok (.aload_n 0, 1) := by decide +kernel
theorem dX5_locksWith_22 : decode cX5_locksWith 22 = .ok (.iload_n 3, 1) := by decide +kernel
theorem dX5_locksWith_23 : decode cX5_locksWith 23 = .ok (.iconst 3, 1) := by decide +kernel
theorem dX5_locksWith_24 : decode cX5_locksWith 24 = .ok (.invokevirtual 84, 3) := by decide +kernel
theorem dX5_locksWith_27 : decode cX5_locksWith 27 = .ok (.ifCond .eq 18, 3) := by decide +kernel
theorem dX5_locksWith_30 : decode cX5_locksWith 30 = .ok (.aload_n 0, 1) := by decide +kernel
theorem dX5_locksWith_31 : decode cX5_locksWith 31 = .ok (.getfield 18, 3) := by decide +kernel
theorem dX5_locksWith_34 : decode cX5_locksWith 34 = .ok (.iload_n 3, 1) := by decide +kernel
theorem dX5_locksWith_35 : decode cX5_locksWith 35 = .ok (.invokestatic 69, 3) := by decide +kernel
theorem dX5_locksWith_38 : decode cX5_locksWith 38 = .ok (.iload_n 1, 1) := by decide +kernel
theorem dX5_locksWith_39 : decode cX5_locksWith 39 = .ok (.if_icmp .ne 6, 3) := by decide +kernel
theorem dX5_locksWith_42 : decode cX5_locksWith 42 = .ok (.iinc 2 1, 3) := by decide +kernel
theorem dX5_locksWith_45 : decode cX5_locksWith 45 = .ok (.iinc 3 1, 3) := by decide +kernel
theorem dX5_locksWith_48 : decode cX5_locksWith 48 = .ok (.goto (-44), 3) := by decide +kernel
theorem dX5_locksWith_51 : decode cX5_locksWith 51 = .ok (.iload_n 2, 1) := by decide +kernel
theorem dX5_locksWith_52 : decode cX5_locksWith 52 = .ok (.ireturn, 1) := by decide +kernel
theorem dX5_propsAway_0 : decode cX5_propsAway 0 = .ok (.iconst 0, 1) := by decide +kernel
theorem dX5_propsAway_1 : decode cX5_propsAway 1 = .ok (.istore_n 1, 1) := by decide +kernel
theorem dX5_propsAway_2 : decode cX5_propsAway 2 = .ok (.iconst 0, 1) := by decide +kernel
theorem dX5_propsAway_3 : decode cX5_propsAway 3 = .ok (.istore_n 2, 1) := by decide +kernel
theorem dX5_propsAway_4 : decode cX5_propsAway 4 = .ok (.iload_n 2, 1) := by decide +kernel
theorem dX5_propsAway_5 : decode cX5_propsAway 5 = .ok (.aload_n 0, 1) := by decide +kernel
theorem dX5_propsAway_6 : decode cX5_propsAway 6 = .ok (.getfield 57, 3) := by decide +kernel
theorem dX5_propsAway_9 : decode cX5_propsAway 9 = .ok (.if_icmp .ge 31, 3) := by decide +kernel
theorem dX5_propsAway_12 : decode cX5_propsAway 12 = .ok (.aload_n 0, 1) := by decide +kernel
theorem dX5_propsAway_13 : decode cX5_propsAway 13 = .ok (.getfield 30, 3) := by decide +kernel
theorem dX5_propsAway_16 : decode cX5_propsAway 16 = .ok (.iload_n 2, 1) := by decide +kernel
theorem dX5_propsAway_17 : decode cX5_propsAway 17 = .ok (.invokestatic 69, 3) := by decide +kernel
theorem dX5_propsAway_20 : decode cX5_propsAway 20 = .ok (.aload_n 0, 1) := by decide +kernel
theorem dX5_propsAway_21 : decode cX5_propsAway 21 = .ok (.getfield 27, 3) := by decide +kernel
theorem dX5_propsAway_24 : decode cX5_propsAway 24 = .ok (.iload_n 2, 1) := by decide +kernel
theorem dX5_propsAway_25 : decode cX5_propsAway 25 = .ok (.invokestatic 69, 3) := by decide +kernel
theorem dX5_propsAway_28 : decode cX5_propsAway 28 = .ok (.if_icmp .eq 6, 3) := by decide +kernel
theorem dX5_propsAway_31 : decode cX5_propsAway 31 = .ok (.iinc 1 1, 3) := by decide +kernel
theorem dX5_propsAway_34 : decode cX5_propsAway 34 = .ok (.iinc 2 1, 3) := by decide +kernel
theorem dX5_propsAway_37 : decode cX5_propsAway 37 = .ok (.goto (-33), 3) := by decide +kernel
theorem dX5_propsAway_40 : decode cX5_propsAway 40 = .ok (.iload_n 1, 1) := by decide +kernel
theorem dX5_propsAway_41 : decode cX5_propsAway 41 = .ok (.ireturn, 1) := by decide +kernel
theorem dX5_openBoxes_0 : decode cX5_openBoxes 0 = .ok (.iconst 0, 1) := by decide +kernel
theorem dX5_openBoxes_1 : decode cX5_openBoxes 1 = .ok (.istore_n 1, 1) := by decide +kernel
theorem dX5_openBoxes_2 : decode cX5_openBoxes 2 = .ok (.iconst 1, 1) := by decide +kernel
theorem dX5_openBoxes_3 : decode cX5_openBoxes 3 = .ok (.istore_n 2, 1) := by decide +kernel
theorem dX5_openBoxes_4 : decode cX5_openBoxes 4 = .ok (.iload_n 2, 1) := by decide +kernel
theorem dX5_openBoxes_5 : decode cX5_openBoxes 5 = .ok (.aload_n 0, 1) := by decide +kernel
theorem dX5_openBoxes_6 : decode cX5_openBoxes 6 = .ok (.getfield 45, 3) := by decide +kernel
theorem dX5_openBoxes_9 : decode cX5_openBoxes 9 = .ok (.if_icmp .ge 20, 3) := by decide +kernel
theorem dX5_openBoxes_12 : decode cX5_openBoxes 12 = .ok (.aload_n 0, 1) := by decide +kernel
theorem dX5_openBoxes_13 : decode cX5_openBoxes 13 = .ok (.iload_n 2, 1) := by decide +kernel
theorem dX5_openBoxes_14 : decode cX5_openBoxes 14 = .ok (.invokevirtual 77, 3) := by decide +kernel
theorem dX5_openBoxes_17 : decode cX5_openBoxes 17 = .ok (.ifCond .eq 6, 3) := by decide +kernel
theorem dX5_openBoxes_20 : decode cX5_openBoxes 20 = .ok (.iinc 1 1, 3) := by decide +kernel
theorem dX5_openBoxes_23 : decode cX5_openBoxes 23 = .ok (.iinc 2 1, 3) := by decide +kernel
theorem dX5_openBoxes_26 : decode cX5_openBoxes 26 = .ok (.goto (-22), 3) := by decide +kernel
theorem dX5_openBoxes_29 : decode cX5_openBoxes 29 = .ok (.iload_n 1, 1) := by decide +kernel
theorem dX5_openBoxes_30 : decode cX5_openBoxes 30 = .ok (.ireturn, 1) := by decide +kernel
theorem dX5_paleClues_0 : decode cX5_paleClues 0 = .ok (.iconst 0, 1) := by decide +kernel
theorem dX5_paleClues_1 : decode cX5_paleClues 1 = .ok (.istore_n 1, 1) := by decide +kernel
theorem dX5_paleClues_2 : decode cX5_paleClues 2 = .ok (.iconst 0, 1) := by decide +kernel
theorem dX5_paleClues_3 : decode cX5_paleClues 3 = .ok (.istore_n 2, 1) := by decide +kernel
theorem dX5_paleClues_4 : decode cX5_paleClues 4 = .ok (.iload_n 2, 1) := by decide +kernel
theorem dX5_paleClues_5 : decode cX5_paleClues 5 = .ok (.aload_n 0, 1) := by decide +kernel
theorem dX5_paleClues_6 : decode cX5_paleClues 6 = .ok (.getfield 60, 3) := by decide +kernel
theorem dX5_paleClues_9 : decode cX5_paleClues 9 = .ok (.if_icmp .ge 20, 3) := by decide +kernel
theorem dX5_paleClues_12 : decode cX5_paleClues 12 = .ok (.aload_n 0, 1) := by decide +kernel
theorem dX5_paleClues_13 : decode cX5_paleClues 13 = .ok (.iload_n 2, 1) := by decide +kernel
theorem dX5_paleClues_14 : decode cX5_paleClues 14 = .ok (.invokevirtual 94, 3) := by decide +kernel
theorem dX5_paleClues_17 : decode cX5_paleClues 17 = .ok (.ifCond .eq 6, 3) := by decide +kernel
theorem dX5_paleClues_20 : decode cX5_paleClues 20 = .ok (.iinc 1 1, 3) := by decide +kernel
theorem dX5_paleClues_23 : decode cX5_paleClues 23 = .ok (.iinc 2 1, 3) := by decide +kernel
theorem dX5_paleClues_26 : decode cX5_paleClues 26 = .ok (.goto (-22), 3) := by decide +kernel
theorem dX5_paleClues_29 : decode cX5_paleClues 29 = .ok (.iload_n 1, 1) := by decide +kernel
theorem dX5_paleClues_30 : decode cX5_paleClues 30 = .ok (.ireturn, 1) := by decide +kernel
theorem dX5_isPale_0 : decode cX5_isPale 0 = .ok (.aload_n 0, 1) := by decide +kernel
theorem dX5_isPale_1 : decode cX5_isPale 1 = .ok (.getfield 42, 3) := by decide +kernel
theorem dX5_isPale_4 : decode cX5_isPale 4 = .ok (.iload_n 1, 1) := by decide +kernel
theorem dX5_isPale_5 : decode cX5_isPale 5 = .ok (.invokestatic 69, 3) := by decide +kernel
theorem dX5_isPale_8 : decode cX5_isPale 8 = .ok (.iconst 3, 1) := by decide +kernel
theorem dX5_isPale_9 : decode cX5_isPale 9 = .ok (.if_icmp .gt 7, 3) := by decide +kernel
theorem dX5_isPale_12 : decode cX5_isPale 12 = .ok (.iconst 1, 1) := by decide +kernel
theorem dX5_isPale_13 : decode cX5_isPale 13 = .ok (.goto 4, 3) := by decide +kernel
theorem dX5_isPale_16 : decode cX5_isPale 16 = .ok (.iconst 0, 1) := by decide +kernel
theorem dX5_isPale_17 : decode cX5_isPale 17 = .ok (.ireturn, 1) := by decide +kernel
theorem dX5_inkLack_0 : decode cX5_inkLack 0 = .ok (.bipush 9, 2) := by decide +kernel
theorem dX5_inkLack_2 : decode cX5_inkLack 2 = .ok (.aload_n 0, 1) := by decide +kernel
theorem dX5_inkLack_3 : decode cX5_inkLack 3 = .ok (.getfield 42, 3) := by decide +kernel
theorem dX5_inkLack_6 : decode cX5_inkLack 6 = .ok (.iload_n 1, 1) := by decide +kernel
theorem dX5_inkLack_7 : decode cX5_inkLack 7 = .ok (.invokestatic 69, 3) := by decide +kernel
theorem dX5_inkLack_10 : decode cX5_inkLack 10 = .ok (.isub, 1) := by decide +kernel
theorem dX5_inkLack_11 : decode cX5_inkLack 11 = .ok (.ireturn, 1) := by decide +kernel
theorem dX5_fade_0 : decode cX5_fade 0 = .ok (.iconst 0, 1) := by decide +kernel
theorem dX5_fade_1 : decode cX5_fade 1 = .ok (.istore_n 2, 1) := by decide +kernel
theorem dX5_fade_2 : decode cX5_fade 2 = .ok (.iload_n 2, 1) := by decide +kernel
theorem dX5_fade_3 : decode cX5_fade 3 = .ok (.aload_n 0, 1) := by decide +kernel
theorem dX5_fade_4 : decode cX5_fade 4 = .ok (.getfield 60, 3) := by decide +kernel
theorem dX5_fade_7 : decode cX5_fade 7 = .ok (.if_icmp .ge 39, 3) := by decide +kernel
theorem dX5_fade_10 : decode cX5_fade 10 = .ok (.aload_n 0, 1) := by decide +kernel
theorem dX5_fade_11 : decode cX5_fade 11 = .ok (.iload_n 2, 1) := by decide +kernel
theorem dX5_fade_12 : decode cX5_fade 12 = .ok (.invokevirtual 97, 3) := by decide +kernel
theorem dX5_fade_15 : decode cX5_fade 15 = .ok (.ifCond .eq 25, 3) := by decide +kernel
theorem dX5_fade_18 : decode cX5_fade 18 = .ok (.aload_n 0, 1) := by decide +kernel
theorem dX5_fade_19 : decode cX5_fade 19 = .ok (.getfield 42, 3) := by decide +kernel
theorem dX5_fade_22 : decode cX5_fade 22 = .ok (.iload_n 2, 1) := by decide +kernel
theorem dX5_fade_23 : decode cX5_fade 23 = .ok (.iconst 0, 1) := by decide +kernel
theorem dX5_fade_24 : decode cX5_fade 24 = .ok (.aload_n 0, 1) := by decide +kernel
theorem dX5_fade_25 : decode cX5_fade 25 = .ok (.getfield 42, 3) := by decide +kernel
theorem dX5_fade_28 : decode cX5_fade 28 = .ok (.iload_n 2, 1) := by decide +kernel
theorem dX5_fade_29 : decode cX5_fade 29 = .ok (.invokestatic 69, 3) := by decide +kernel
theorem dX5_fade_32 : decode cX5_fade 32 = .ok (.iload_n 1, 1) := by decide +kernel
theorem dX5_fade_33 : decode cX5_fade 33 = .ok (.isub, 1) := by decide +kernel
theorem dX5_fade_34 : decode cX5_fade 34 = .ok (.invokestatic 100, 3) := by decide +kernel
theorem dX5_fade_37 : decode cX5_fade 37 = .ok (.invokestatic 49, 3) := by decide +kernel
theorem dX5_fade_40 : decode cX5_fade 40 = .ok (.iinc 2 1, 3) := by decide +kernel
theorem dX5_fade_43 : decode cX5_fade 43 = .ok (.goto (-41), 3) := by decide +kernel
theorem dX5_fade_46 : decode cX5_fade 46 = .ok (.return_, 1) := by decide +kernel
theorem dX5_clueDigit_0 : decode cX5_clueDigit 0 = .ok (.aload_n 0, 1) := by decide +kernel
theorem dX5_clueDigit_1 : decode cX5_clueDigit 1 = .ok (.getfield 18, 3) := by decide +kernel
theorem dX5_clueDigit_4 : decode cX5_clueDigit 4 = .ok (.aload_n 0, 1) := by decide +kernel
theorem dX5_clueDigit_5 : decode cX5_clueDigit 5 = .ok (.getfield 36, 3) := by decide +kernel
theorem dX5_clueDigit_8 : decode cX5_clueDigit 8 = .ok (.iload_n 1, 1) := by decide +kernel
theorem dX5_clueDigit_9 : decode cX5_clueDigit 9 = .ok (.invokestatic 69, 3) := by decide +kernel
theorem dX5_clueDigit_12 : decode cX5_clueDigit 12 = .ok (.invokestatic 69, 3) := by decide +kernel
theorem dX5_clueDigit_15 : decode cX5_clueDigit 15 = .ok (.istore_n 2, 1) := by decide +kernel
theorem dX5_clueDigit_16 : decode cX5_clueDigit 16 = .ok (.aload_n 0, 1) := by decide +kernel
theorem dX5_clueDigit_17 : decode cX5_clueDigit 17 = .ok (.getfield 39, 3) := by decide +kernel
theorem dX5_clueDigit_20 : decode cX5_clueDigit 20 = .ok (.iload_n 1, 1) := by decide +kernel
theorem dX5_clueDigit_21 : decode cX5_clueDigit 21 = .ok (.invokestatic 69, 3) := by decide +kernel
theorem dX5_clueDigit_24 : decode cX5_clueDigit 24 = .ok (.tableswitch 53 0 2 #[28, 37, 45], 28) := by decide +kernel
theorem dX5_clueDigit_52 : decode cX5_clueDigit 52 = .ok (.iload_n 2, 1) := by decide +kernel
theorem dX5_clueDigit_53 : decode cX5_clueDigit 53 = .ok (.sipush 1000, 3) := by decide +kernel
theorem dX5_clueDigit_56 : decode cX5_clueDigit 56 = .ok (.idiv, 1) := by decide +kernel
theorem dX5_clueDigit_57 : decode cX5_clueDigit 57 = .ok (.bipush 10, 2) := by decide +kernel
theorem dX5_clueDigit_59 : decode cX5_clueDigit 59 = .ok (.irem, 1) := by decide +kernel
theorem dX5_clueDigit_60 : decode cX5_clueDigit 60 = .ok (.ireturn, 1) := by decide +kernel
theorem dX5_clueDigit_61 : decode cX5_clueDigit 61 = .ok (.iload_n 2, 1) := by decide +kernel
theorem dX5_clueDigit_62 : decode cX5_clueDigit 62 = .ok (.bipush 100, 2) := by decide +kernel
theorem dX5_clueDigit_64 : decode cX5_clueDigit 64 = .ok (.idiv, 1) := by decide +kernel
theorem dX5_clueDigit_65 : decode cX5_clueDigit 65 = .ok (.bipush 10, 2) := by decide +kernel
theorem dX5_clueDigit_67 : decode cX5_clueDigit 67 = .ok (.irem, 1) := by decide +kernel
theorem dX5_clueDigit_68 : decode cX5_clueDigit 68 = .ok (.ireturn, 1) := by decide +kernel
theorem dX5_clueDigit_69 : decode cX5_clueDigit 69 = .ok (.iload_n 2, 1) := by decide +kernel
theorem dX5_clueDigit_70 : decode cX5_clueDigit 70 = .ok (.bipush 10, 2) := by decide +kernel
theorem dX5_clueDigit_72 : decode cX5_clueDigit 72 = .ok (.idiv, 1) := by decide +kernel
theorem dX5_clueDigit_73 : decode cX5_clueDigit 73 = .ok (.bipush 10, 2) := by decide +kernel
theorem dX5_clueDigit_75 : decode cX5_clueDigit 75 = .ok (.irem, 1) := by decide +kernel
theorem dX5_clueDigit_76 : decode cX5_clueDigit 76 = .ok (.ireturn, 1) := by decide +kernel
theorem dX5_clueDigit_77 : decode cX5_clueDigit 77 = .ok (.iload_n 2, 1) := by decide +kernel
theorem dX5_clueDigit_78 : decode cX5_clueDigit 78 = .ok (.bipush 10, 2) := by decide +kernel
theorem dX5_clueDigit_80 : decode cX5_clueDigit 80 = .ok (.irem, 1) := by decide +kernel
theorem dX5_clueDigit_81 : decode cX5_clueDigit 81 = .ok (.ireturn, 1) := by decide +kernel
theorem dX5_readingMinutes_0 : decode cX5_readingMinutes 0 = .ok (.iconst 3, 1) := by decide +kernel
theorem dX5_readingMinutes_1 : decode cX5_readingMinutes 1 = .ok (.aload_n 0, 1) := by decide +kernel
theorem dX5_readingMinutes_2 : decode cX5_readingMinutes 2 = .ok (.getfield 66, 3) := by decide +kernel
theorem dX5_readingMinutes_5 : decode cX5_readingMinutes 5 = .ok (.invokestatic 106, 3) := by decide +kernel
theorem dX5_readingMinutes_8 : decode cX5_readingMinutes 8 = .ok (.aload_n 0, 1) := by decide +kernel
theorem dX5_readingMinutes_9 : decode cX5_readingMinutes 9 = .ok (.iload_n 1, 1) := by decide +kernel
theorem dX5_readingMinutes_10 : decode cX5_readingMinutes 10 = .ok (.invokevirtual 94, 3) := by decide +kernel
theorem dX5_readingMinutes_13 : decode cX5_readingMinutes 13 = .ok (.ifCond .eq 7, 3) := by decide +kernel
theorem dX5_readingMinutes_16 : decode cX5_readingMinutes 16 = .ok (.iconst 2, 1) := by decide +kernel
theorem dX5_readingMinutes_17 : decode cX5_readingMinutes 17 = .ok (.goto 4, 3) := by decide +kernel
theorem dX5_readingMinutes_20 : decode cX5_readingMinutes 20 = .ok (.iconst 1, 1) := by decide +kernel
theorem dX5_readingMinutes_21 : decode cX5_readingMinutes 21 = .ok (.imul, 1) := by decide +kernel
theorem dX5_readingMinutes_22 : decode cX5_readingMinutes 22 = .ok (.ireturn, 1) := by decide +kernel
theorem dX5_learnFromClue_0 : decode cX5_learnFromClue 0 = .ok (.aload_n 0, 1) := by decide +kernel
theorem dX5_learnFromClue_1 : decode cX5_learnFromClue 1 = .ok (.aload_n 0, 1) := by decide +kernel
theorem dX5_learnFromClue_2 : decode cX5_learnFromClue 2 = .ok (.getfield 36, 3) := by decide +kernel
theorem dX5_learnFromClue_5 : decode cX5_learnFromClue 5 = .ok (.iload_n 1, 1) := by decide +kernel
theorem dX5_learnFromClue_6 : decode cX5_learnFromClue 6 = .ok (.invokestatic 69, 3) := by decide +kernel
theorem dX5_learnFromClue_9 : decode cX5_learnFromClue 9 = .ok (.aload_n 0, 1) := by decide +kernel
theorem dX5_learnFromClue_10 : decode cX5_learnFromClue 10 = .ok (.getfield 39, 3) := by decide +kernel
theorem dX5_learnFromClue_13 : decode cX5_learnFromClue 13 = .ok (.iload_n 1, 1) := by decide +kernel
theorem dX5_learnFromClue_14 : decode cX5_learnFromClue 14 = .ok (.invokestatic 69, 3) := by decide +kernel
theorem dX5_learnFromClue_17 : decode cX5_learnFromClue 17 = .ok (.invokevirtual 109, 3) := by decide +kernel
theorem dX5_learnFromClue_20 : decode cX5_learnFromClue 20 = .ok (.aload_n 0, 1) := by decide +kernel
theorem dX5_learnFromClue_21 : decode cX5_learnFromClue 21 = .ok (.getfield 42, 3) := by decide +kernel
theorem dX5_learnFromClue_24 : decode cX5_learnFromClue 24 = .ok (.iload_n 1, 1) := by decide +kernel
theorem dX5_learnFromClue_25 : decode cX5_learnFromClue 25 = .ok (.iconst 0, 1) := by decide +kernel
theorem dX5_learnFromClue_26 : decode cX5_learnFromClue 26 = .ok (.aload_n 0, 1) := by decide +kernel
theorem dX5_learnFromClue_27 : decode cX5_learnFromClue 27 = .ok (.getfield 42, 3) := by decide +kernel
theorem dX5_learnFromClue_30 : decode cX5_learnFromClue 30 = .ok (.iload_n 1, 1) := by decide +kernel
theorem dX5_learnFromClue_31 : decode cX5_learnFromClue 31 = .ok (.invokestatic 69, 3) := by decide +kernel
theorem dX5_learnFromClue_34 : decode cX5_learnFromClue 34 = .ok (.iconst 1, 1) := by decide +kernel
theorem dX5_learnFromClue_35 : decode cX5_learnFromClue 35 = .ok (.isub, 1) := by decide +kernel
theorem dX5_learnFromClue_36 : decode cX5_learnFromClue 36 = .ok (.invokestatic 100, 3) := by decide +kernel
theorem dX5_learnFromClue_39 : decode cX5_learnFromClue 39 = .ok (.invokestatic 49, 3) := by decide +kernel
theorem dX5_learnFromClue_42 : decode cX5_learnFromClue 42 = .ok (.return_, 1) := by decide +kernel
theorem dX5_learnDigit_0 : decode cX5_learnDigit 0 = .ok (.aload_n 0, 1) := by decide +kernel
theorem dX5_learnDigit_1 : decode cX5_learnDigit 1 = .ok (.getfield 24, 3) := by decide +kernel
theorem dX5_learnDigit_4 : decode cX5_learnDigit 4 = .ok (.iload_n 1, 1) := by decide +kernel
theorem dX5_learnDigit_5 : decode cX5_learnDigit 5 = .ok (.aload_n 0, 1) := by decide +kernel
theorem dX5_learnDigit_6 : decode cX5_learnDigit 6 = .ok (.getfield 24, 3) := by decide +kernel
theorem dX5_learnDigit_9 : decode cX5_learnDigit 9 = .ok (.iload_n 1, 1) := by decide +kernel
theorem dX5_learnDigit_10 : decode cX5_learnDigit 10 = .ok (.invokestatic 69, 3) := by decide +kernel
theorem dX5_learnDigit_13 : decode cX5_learnDigit 13 = .ok (.iconst 1, 1) := by decide +kernel
theorem dX5_learnDigit_14 : decode cX5_learnDigit 14 = .ok (.iload_n 2, 1) := by decide +kernel
theorem dX5_learnDigit_15 : decode cX5_learnDigit 15 = .ok (.ishl, 1) := by decide +kernel
theorem dX5_learnDigit_16 : decode cX5_learnDigit 16 = .ok (.ior, 1) := by decide +kernel
theorem dX5_learnDigit_17 : decode cX5_learnDigit 17 = .ok (.invokestatic 49, 3) := by decide +kernel
theorem dX5_learnDigit_20 : decode cX5_learnDigit 20 = .ok (.return_, 1) := by decide +kernel
theorem dX5_forgetDigits_0 : decode cX5_forgetDigits 0 = .ok (.iconst 0, 1) := by decide +kernel
theorem dX5_forgetDigits_1 : decode cX5_forgetDigits 1 = .ok (.istore_n 1, 1) := by decide +kernel
theorem dX5_forgetDigits_2 : decode cX5_forgetDigits 2 = .ok (.iload_n 1, 1) := by decide +kernel
theorem dX5_forgetDigits_3 : decode cX5_forgetDigits 3 = .ok (.aload_n 0, 1) := by decide +kernel
theorem dX5_forgetDigits_4 : decode cX5_forgetDigits 4 = .ok (.getfield 45, 3) := by decide +kernel
theorem dX5_forgetDigits_7 : decode cX5_forgetDigits 7 = .ok (.if_icmp .ge 18, 3) := by decide +kernel
theorem dX5_forgetDigits_10 : decode cX5_forgetDigits 10 = .ok (.aload_n 0, 1) := by decide +kernel
theorem dX5_forgetDigits_11 : decode cX5_forgetDigits 11 = .ok (.getfield 24, 3) := by decide +kernel
theorem dX5_forgetDigits_14 : decode cX5_forgetDigits 14 = .ok (.iload_n 1, 1) := by decide +kernel
theorem dX5_forgetDigits_15 : decode cX5_forgetDigits 15 = .ok (.iconst 0, 1) := by decide +kernel
theorem dX5_forgetDigits_16 : decode cX5_forgetDigits 16 = .ok (.invokestatic 49, 3) := by decide +kernel
theorem dX5_forgetDigits_19 : decode cX5_forgetDigits 19 = .ok (.iinc 1 1, 3) := by decide +kernel
theorem dX5_forgetDigits_22 : decode cX5_forgetDigits 22 = .ok (.goto (-20), 3) := by decide +kernel
theorem dX5_forgetDigits_25 : decode cX5_forgetDigits 25 = .ok (.return_, 1) := by decide +kernel
theorem dX5_dropHeldProps_0 : decode cX5_dropHeldProps 0 = .ok (.iconst 0, 1) := by decide +kernel
theorem dX5_dropHeldProps_1 : decode cX5_dropHeldProps 1 = .ok (.istore_n 1, 1) := by decide +kernel
theorem dX5_dropHeldProps_2 : decode cX5_dropHeldProps 2 = .ok (.iload_n 1, 1) := by decide +kernel
theorem dX5_dropHeldProps_3 : decode cX5_dropHeldProps 3 = .ok (.aload_n 0, 1) := by decide +kernel
theorem dX5_dropHeldProps_4 : decode cX5_dropHeldProps 4 = .ok (.getfield 57, 3) := by decide +kernel
theorem dX5_dropHeldProps_7 : decode cX5_dropHeldProps 7 = .ok (.if_icmp .ge 26, 3) := by decide +kernel
theorem dX5_dropHeldProps_10 : decode cX5_dropHeldProps 10 = .ok (.aload_n 0, 1) := by decide +kernel
theorem dX5_dropHeldProps_11 : decode cX5_dropHeldProps 11 = .ok (.iload_n 1, 1) := by decide +kernel
theorem dX5_dropHeldProps_12 : decode cX5_dropHeldProps 12 = .ok (.invokevirtual 91, 3) := by decide +kernel
theorem dX5_dropHeldProps_15 : decode cX5_dropHeldProps 15 = .ok (.ifCond .eq 12, 3) := by decide +kernel
theorem dX5_dropHeldProps_18 : decode cX5_dropHeldProps 18 = .ok (.aload_n 0, 1) := by decide +kernel
theorem dX5_dropHeldProps_19 : decode cX5_dropHeldProps 19 = .ok (.getfield 30, 3) := by decide +kernel
theorem dX5_dropHeldProps_22 : decode cX5_dropHeldProps 22 = .ok (.iload_n 1, 1) := by decide +kernel
theorem dX5_dropHeldProps_23 : decode cX5_dropHeldProps 23 = .ok (.iconst 0, 1) := by decide +kernel
theorem dX5_dropHeldProps_24 : decode cX5_dropHeldProps 24 = .ok (.invokestatic 49, 3) := by decide +kernel
theorem dX5_dropHeldProps_27 : decode cX5_dropHeldProps 27 = .ok (.iinc 1 1, 3) := by decide +kernel
theorem dX5_dropHeldProps_30 : decode cX5_dropHeldProps 30 = .ok (.goto (-28), 3) := by decide +kernel
theorem dX5_dropHeldProps_33 : decode cX5_dropHeldProps 33 = .ok (.return_, 1) := by decide +kernel
theorem dX5_bringPropsHome_0 : decode cX5_bringPropsHome 0 = .ok (.iconst 0, 1) := by decide +kernel
theorem dX5_bringPropsHome_1 : decode cX5_bringPropsHome 1 = .ok (.istore_n 1, 1) := by decide +kernel
theorem dX5_bringPropsHome_2 : decode cX5_bringPropsHome 2 = .ok (.iload_n 1, 1) := by decide +kernel
theorem dX5_bringPropsHome_3 : decode cX5_bringPropsHome 3 = .ok (.aload_n 0, 1) := by decide +kernel
theorem dX5_bringPropsHome_4 : decode cX5_bringPropsHome 4 = .ok (.getfield 57, 3) := by decide +kernel
theorem dX5_bringPropsHome_7 : decode cX5_bringPropsHome 7 = .ok (.if_icmp .ge 25, 3) := by decide +kernel
theorem dX5_bringPropsHome_10 : decode cX5_bringPropsHome 10 = .ok (.aload_n 0, 1) := by decide +kernel
theorem dX5_bringPropsHome_11 : decode cX5_bringPropsHome 11 = .ok (.getfield 30, 3) := by decide +kernel
theorem dX5_bringPropsHome_14 : decode cX5_bringPropsHome 14 = .ok (.iload_n 1, 1) := by decide +kernel
theorem dX5_bringPropsHome_15 : decode cX5_bringPropsHome 15 = .ok (.aload_n 0, 1) := by decide +kernel
theorem dX5_bringPropsHome_16 : decode cX5_bringPropsHome 16 = .ok (.getfield 27, 3) := by decide +kernel
theorem dX5_bringPropsHome_19 : decode cX5_bringPropsHome 19 = .ok (.iload_n 1, 1) := by decide +kernel
theorem dX5_bringPropsHome_20 : decode cX5_bringPropsHome 20 = .ok (.invokestatic 69, 3) := by decide +kernel
theorem dX5_bringPropsHome_23 : decode cX5_bringPropsHome 23 = .ok (.invokestatic 49, 3) := by decide +kernel
theorem dX5_bringPropsHome_26 : decode cX5_bringPropsHome 26 = .ok (.iinc 1 1, 3) := by decide +kernel
theorem dX5_bringPropsHome_29 : decode cX5_bringPropsHome 29 = .ok (.goto (-27), 3) := by decide +kernel
theorem dX5_bringPropsHome_32 : decode cX5_bringPropsHome 32 = .ok (.return_, 1) := by decide +kernel
theorem dX5_closeBoxes_0 : decode cX5_closeBoxes 0 = .ok (.iconst 1, 1) := by decide +kernel
theorem dX5_closeBoxes_1 : decode cX5_closeBoxes 1 = .ok (.istore_n 1, 1) := by decide +kernel
theorem dX5_closeBoxes_2 : decode cX5_closeBoxes 2 = .ok (.iload_n 1, 1) := by decide +kernel
theorem dX5_closeBoxes_3 : decode cX5_closeBoxes 3 = .ok (.aload_n 0, 1) := by decide +kernel
theorem dX5_closeBoxes_4 : decode cX5_closeBoxes 4 = .ok (.getfield 45, 3) := by decide +kernel
theorem dX5_closeBoxes_7 : decode cX5_closeBoxes 7 = .ok (.if_icmp .ge 18, 3) := by decide +kernel
theorem dX5_closeBoxes_10 : decode cX5_closeBoxes 10 = .ok (.aload_n 0, 1) := by decide +kernel
theorem dX5_closeBoxes_11 : decode cX5_closeBoxes 11 = .ok (.getfield 21, 3) := by decide +kernel
theorem dX5_closeBoxes_14 : decode cX5_closeBoxes 14 = .ok (.iload_n 1, 1) := by decide +kernel
theorem dX5_closeBoxes_15 : decode cX5_closeBoxes 15 = .ok (.iconst 0, 1) := by decide +kernel
theorem dX5_closeBoxes_16 : decode cX5_closeBoxes 16 = .ok (.invokestatic 49, 3) := by decide +kernel
theorem dX5_closeBoxes_19 : decode cX5_closeBoxes 19 = .ok (.iinc 1 1, 3) := by decide +kernel
theorem dX5_closeBoxes_22 : decode cX5_closeBoxes 22 = .ok (.goto (-20), 3) := by decide +kernel
theorem dX5_closeBoxes_25 : decode cX5_closeBoxes 25 = .ok (.return_, 1) := by decide +kernel
theorem dX5_stepFor_0 : decode cX5_stepFor 0 = .ok (.iconst 0, 1) := by decide +kernel
theorem dX5_stepFor_1 : decode cX5_stepFor 1 = .ok (.istore_n 2, 1) := by decide +kernel
theorem dX5_stepFor_2 : decode cX5_stepFor 2 = .ok (.iload_n 1, 1) := by decide +kernel
theorem dX5_stepFor_3 : decode cX5_stepFor 3 = .ok (.istore_n 3, 1) := by decide +kernel
theorem dX5_stepFor_4 : decode cX5_stepFor 4 = .ok (.iconst 0, 1) := by decide +kernel
theorem dX5_stepFor_5 : decode cX5_stepFor 5 = .ok (.istore 4, 2) := by decide +kernel
theorem dX5_stepFor_7 : decode cX5_stepFor 7 = .ok (.iload 4, 2) := by decide +kernel
theorem dX5_stepFor_9 : decode cX5_stepFor 9 = .ok (.bipush 12, 2) := by decide +kernel
theorem dX5_stepFor_11 : decode cX5_stepFor 11 = .ok (.if_icmp .ge 87, 3) := by decide +kernel
theorem dX5_stepFor_14 : decode cX5_stepFor 14 = .ok (.iload_n 3, 1) := by decide +kernel
theorem dX5_stepFor_15 : decode cX5_stepFor 15 = .ok (.ifCond .le 12, 3) := by decide +kernel
theorem dX5_stepFor_18 : decode cX5_stepFor 18 = .ok (.iload_n 2, 1) := by decide +kernel
theorem dX5_stepFor_19 : decode cX5_stepFor 19 = .ok (.iload_n 3, 1) := by decide +kernel
theorem dX5_stepFor_20 : decode cX5_stepFor 20 = .ok (.ishr, 1) := by decide +kernel
theorem dX5_stepFor_21 : decode cX5_stepFor 21 = .ok (.iconst 1, 1) := by decide +kernel
theorem dX5_stepFor_22 : decode cX5_stepFor 22 = .ok (.iand, 1) := by decide +kernel
theorem dX5_stepFor_23 : decode cX5_stepFor 23 = .ok (.iconst 1, 1) := by decide +kernel
theorem dX5_stepFor_24 : decode cX5_stepFor 24 = .ok (.if_icmp .ne 6, 3) := by decide +kernel
theorem dX5_stepFor_27 : decode cX5_stepFor 27 = .ok (.bipush (-5), 2) := by decide +kernel
theorem dX5_stepFor_29 : decode cX5_stepFor 29 = .ok (.ireturn, 1) := by decide +kernel
theorem dX5_stepFor_30 : decode cX5_stepFor 30 = .ok (.iload_n 2, 1) := by decide +kernel
theorem dX5_stepFor_31 : decode cX5_stepFor 31 = .ok (.iconst 1, 1) := by decide +kernel
theorem dX5_stepFor_32 : decode cX5_stepFor 32 = .ok (.iload_n 3, 1) := by decide +kernel
theorem dX5_stepFor_33 : decode cX5_stepFor 33 = .ok (.ishl, 1) := by decide +kernel
theorem dX5_stepFor_34 : decode cX5_stepFor 34 = .ok (.ior, 1) := by decide +kernel
theorem dX5_stepFor_35 : decode cX5_stepFor 35 = .ok (.istore_n 2, 1) := by decide +kernel
theorem dX5_stepFor_36 : decode cX5_stepFor 36 = .ok (.aload_n 0, 1) := by decide +kernel
theorem dX5_stepFor_37 : decode cX5_stepFor 37 = .ok (.aload_n 0, 1) := by decide +kernel
theorem dX5_stepFor_38 : decode cX5_stepFor 38 = .ok (.getfield 9, 3) := by decide +kernel
theorem dX5_stepFor_41 : decode cX5_stepFor 41 = .ok (.iload_n 3, 1) := by decide +kernel
theorem dX5_stepFor_42 : decode cX5_stepFor 42 = .ok (.invokestatic 69, 3) := by decide +kernel
theorem dX5_stepFor_45 : decode cX5_stepFor 45 = .ok (.invokevirtual 73, 3) := by decide +kernel
theorem dX5_stepFor_48 : decode cX5_stepFor 48 = .ok (.istore 5, 2) := by decide +kernel
theorem dX5_stepFor_50 : decode cX5_stepFor 50 = .ok (.iload 5, 2) := by decide +kernel
theorem dX5_stepFor_52 : decode cX5_stepFor 52 = .ok (.ifCond .ne 27, 3) := by decide +kernel
theorem dX5_stepFor_55 : decode cX5_stepFor 55 = .ok (.aload_n 0, 1) := by decide +kernel
theorem dX5_stepFor_56 : decode cX5_stepFor 56 = .ok (.iload_n 3, 1) := by decide +kernel
theorem dX5_stepFor_57 : decode cX5_stepFor 57 = .ok (.iconst 2, 1) := by decide +kernel
theorem dX5_stepFor_58 : decode cX5_stepFor 58 = .ok (.invokevirtual 84, 3) := by decide +kernel
theorem dX5_stepFor_61 : decode cX5_stepFor 61 = .ok (.ifCond .eq 11, 3) := by decide +kernel
theorem dX5_stepFor_64 : decode cX5_stepFor 64 = .ok (.aload_n 0, 1) := by decide +kernel
theorem dX5_stepFor_65 : decode cX5_stepFor 65 = .ok (.iload_n 3, 1) := by decide +kernel
theorem dX5_stepFor_66 : decode cX5_stepFor 66 = .ok (.invokevirtual 113, 3) := by decide +kernel
theorem dX5_stepFor_69 : decode cX5_stepFor 69 = .ok (.goto 8, 3) := by decide +kernel
theorem dX5_stepFor_72 : decode cX5_stepFor 72 = .ok (.aload_n 0, 1) := by decide +kernel
theorem dX5_stepFor_73 : decode cX5_stepFor 73 = .ok (.iload_n 3, 1) := by decide +kernel
theorem dX5_stepFor_74 : decode cX5_stepFor 74 = .ok (.invokevirtual 116, 3) := by decide +kernel
theorem dX5_stepFor_77 : decode cX5_stepFor 77 = .ok (.istore 5, 2) := by decide +kernel
theorem dX5_stepFor_79 : decode cX5_stepFor 79 = .ok (.iload 5, 2) := by decide +kernel
theorem dX5_stepFor_81 : decode cX5_stepFor 81 = .ok (.bipush 100, 2) := by decide +kernel
theorem dX5_stepFor_83 : decode cX5_stepFor 83 = .ok (.if_icmp .lt 6, 3) := by decide +kernel
theorem dX5_stepFor_86 : decode cX5_stepFor 86 = .ok (.iload 5, 2) := by decide +kernel
theorem dX5_stepFor_88 : decode cX5_stepFor 88 = .ok (.ireturn, 1) := by decide +kernel
theorem dX5_stepFor_89 : decode cX5_stepFor 89 = .ok (.iload 5, 2) := by decide +kernel
theorem dX5_stepFor_91 : decode cX5_stepFor 91 = .ok (.istore_n 3, 1) := by decide +kernel
theorem dX5_stepFor_92 : decode cX5_stepFor 92 = .ok (.iinc 4 1, 3) := by decide +kernel
theorem dX5_stepFor_95 : decode cX5_stepFor 95 = .ok (.goto (-88), 3) := by decide +kernel
theorem dX5_stepFor_98 : decode cX5_stepFor 98 = .ok (.bipush (-5), 2) := by decide +kernel
theorem dX5_stepFor_100 : decode cX5_stepFor 100 = .ok (.ireturn, 1) := by decide +kernel
theorem dX5_stepForThing_0 : decode cX5_stepForThing 0 = .ok (.aload_n 0, 1) := by decide +kernel
theorem dX5_stepForThing_1 : decode cX5_stepForThing 1 = .ok (.getfield 18, 3) := by decide +kernel
theorem dX5_stepForThing_4 : decode cX5_stepForThing 4 = .ok (.iload_n 1, 1) := by decide +kernel
theorem dX5_stepForThing_5 : decode cX5_stepForThing 5 = .ok (.invokestatic 69, 3) := by decide +kernel
theorem dX5_stepForThing_8 : decode cX5_stepForThing 8 = .ok (.istore_n 2, 1) := by decide +kernel
theorem dX5_stepForThing_9 : decode cX5_stepForThing 9 = .ok (.aload_n 0, 1) := by decide +kernel
theorem dX5_stepForThing_10 : decode cX5_stepForThing 10 = .ok (.getfield 30, 3) := by decide +kernel
theorem dX5_stepForThing_13 : decode cX5_stepForThing 13 = .ok (.iload_n 2, 1) := by decide +kernel
theorem dX5_stepForThing_14 : decode cX5_stepForThing 14 = .ok (.invokestatic 69, 3) := by decide +kernel
theorem dX5_stepForThing_17 : decode cX5_stepForThing 17 = .ok (.istore_n 3, 1) := by decide +kernel
theorem dX5_stepForThing_18 : decode cX5_stepForThing 18 = .ok (.aload_n 0, 1) := by decide +kernel
theorem dX5_stepForThing_19 : decode cX5_stepForThing 19 = .ok (.iload_n 1, 1) := by decide +kernel
theorem dX5_stepForThing_20 : decode cX5_stepForThing 20 = .ok (.iconst 0, 1) := by decide +kernel
theorem dX5_stepForThing_21 : decode cX5_stepForThing 21 = .ok (.invokevirtual 84, 3) := by decide +kernel
theorem dX5_stepForThing_24 : decode cX5_stepForThing 24 = .ok (.ifCond .ne 38, 3) := by decide +kernel
theorem dX5_stepForThing_27 : decode cX5_stepForThing 27 = .ok (.aload_n 0, 1) := by decide +kernel
theorem dX5_stepForThing_28 : decode cX5_stepForThing 28 = .ok (.iload_n 1, 1) := by decide +kernel
theorem dX5_stepForThing_29 : decode cX5_stepForThing 29 = .ok (.iconst 1, 1) := by decide +kernel
theorem dX5_stepForThing_30 : decode cX5_stepForThing 30 = .ok (.invokevirtual 84, 3) := by decide +kernel
theorem dX5_stepForThing_33 : decode cX5_stepForThing 33 = .ok (.ifCond .eq 8, 3) := by decide +kernel
theorem dX5_stepForThing_36 : decode cX5_stepForThing 36 = .ok (.iload_n 3, 1) := by decide +kernel
theorem dX5_stepForThing_37 : decode cX5_stepForThing 37 = .ok (.iconst (-1), 1) := by decide +kernel
theorem dX5_stepForThing_38 : decode cX5_stepForThing 38 = .ok (.if_icmp .eq 24, 3) := by decide +kernel
theorem dX5_stepForThing_41 : decode cX5_stepForThing 41 = .ok (.aload_n 0, 1) := by decide +kernel
theorem dX5_stepForThing_42 : decode cX5_stepForThing 42 = .ok (.iload_n 1, 1) := by decide +kernel
theorem dX5_stepForThing_43 : decode cX5_stepForThing 43 = .ok (.iconst 3, 1) := by decide +kernel
theorem dX5_stepForThing_44 : decode cX5_stepForThing 44 = .ok (.invokevirtual 84, 3) := by decide +kernel
theorem dX5_stepForThing_47 : decode cX5_stepForThing 47 = .ok (.ifCond .eq 21, 3) := by decide +kernel
theorem dX5_stepForThing_50 : decode cX5_stepForThing 50 = .ok (.iload_n 3, 1) := by decide +kernel
theorem dX5_stepForThing_51 : decode cX5_stepForThing 51 = .ok (.aload_n 0, 1) := by decide +kernel
theorem dX5_stepForThing_52 : decode cX5_stepForThing 52 = .ok (.getfield 9, 3) := by decide +kernel
theorem dX5_stepForThing_55 : decode cX5_stepForThing 55 = .ok (.iload_n 1, 1) := by decide +kernel
theorem dX5_stepForThing_56 : decode cX5_stepForThing 56 = .ok (.invokestatic 69, 3) := by decide +kernel
theorem dX5_stepForThing_59 : decode cX5_stepForThing 59 = .ok (.if_icmp .ne 9, 3) := by decide +kernel
theorem dX5_stepForThing_62 : decode cX5_stepForThing 62 = .ok (.sipush 300, 3) := by decide +kernel
theorem dX5_stepForThing_65 : decode cX5_stepForThing 65 = .ok (.iload_n 1, 1) := by decide +kernel
theorem dX5_stepForThing_66 : decode cX5_stepForThing 66 = .ok (.iadd, 1) := by decide +kernel
theorem dX5_stepForThing_67 : decode cX5_stepForThing 67 = .ok (.ireturn, 1) := by decide +kernel
theorem dX5_stepForThing_68 : decode cX5_stepForThing 68 = .ok (.iload_n 3, 1) := by decide +kernel
theorem dX5_stepForThing_69 : decode cX5_stepForThing 69 = .ok (.iconst (-1), 1) := by decide +kernel
theorem dX5_stepForThing_70 : decode cX5_stepForThing 70 = .ok (.if_icmp .ne 22, 3) := by decide +kernel
theorem dX5_stepForThing_73 : decode cX5_stepForThing 73 = .ok (.sipush 200, 3) := by decide +kernel
theorem dX5_stepForThing_76 : decode cX5_stepForThing 76 = .ok (.iload_n 2, 1) := by decide +kernel
theorem dX5_stepForThing_77 : decode cX5_stepForThing 77 = .ok (.iadd, 1) := by decide +kernel
theorem dX5_stepForThing_78 : decode cX5_stepForThing 78 = .ok (.sipush 1000, 3) := by decide +kernel
theorem dX5_stepForThing_81 : decode cX5_stepForThing 81 = .ok (.aload_n 0, 1) := by decide +kernel
theorem dX5_stepForThing_82 : decode cX5_stepForThing 82 = .ok (.getfield 9, 3) := by decide +kernel
theorem dX5_stepForThing_85 : decode cX5_stepForThing 85 = .ok (.iload_n 1, 1) := by decide +kernel
theorem dX5_stepForThing_86 : decode cX5_stepForThing 86 = .ok (.invokestatic 69, 3) := by decide +kernel
theorem dX5_stepForThing_89 : decode cX5_stepForThing 89 = .ok (.imul, 1) := by decide +kernel
theorem dX5_stepForThing_90 : decode cX5_stepForThing 90 = .ok (.iadd, 1) := by decide +kernel
theorem dX5_stepForThing_91 : decode cX5_stepForThing 91 = .ok (.ireturn, 1) := by decide +kernel
theorem dX5_stepForThing_92 : decode cX5_stepForThing 92 = .ok (.aload_n 0, 1) := by decide +kernel
theorem dX5_stepForThing_93 : decode cX5_stepForThing 93 = .ok (.iload_n 2, 1) := by decide +kernel
theorem dX5_stepForThing_94 : decode cX5_stepForThing 94 = .ok (.invokevirtual 119, 3) := by decide +kernel
theorem dX5_stepForThing_97 : decode cX5_stepForThing 97 = .ok (.ireturn, 1) := by decide +kernel
theorem dX5_stepToHold_0 : decode cX5_stepToHold 0 = .ok (.aload_n 0, 1) := by decide +kernel
theorem dX5_stepToHold_1 : decode cX5_stepToHold 1 = .ok (.aload_n 0, 1) := by decide +kernel
theorem dX5_stepToHold_2 : decode cX5_stepToHold 2 = .ok (.getfield 30, 3) := by decide +kernel
theorem dX5_stepToHold_5 : decode cX5_stepToHold 5 = .ok (.iload_n 1, 1) := by decide +kernel
theorem dX5_stepToHold_6 : decode cX5_stepToHold 6 = .ok (.invokestatic 69, 3) := by decide +kernel
theorem dX5_stepToHold_9 : decode cX5_stepToHold 9 = .ok (.invokevirtual 73, 3) := by decide +kernel
theorem dX5_stepToHold_12 : decode cX5_stepToHold 12 = .ok (.istore_n 2, 1) := by decide +kernel
theorem dX5_stepToHold_13 : decode cX5_stepToHold 13 = .ok (.iload_n 2, 1) := by decide +kernel
theorem dX5_stepToHold_14 : decode cX5_stepToHold 14 = .ok (.ifCond .le 5, 3) := by decide +kernel
theorem dX5_stepToHold_17 : decode cX5_stepToHold 17 = .ok (.iload_n 2, 1) := by decide +kernel
theorem dX5_stepToHold_18 : decode cX5_stepToHold 18 = .ok (.ireturn, 1) := by decide +kernel
theorem dX5_stepToHold_19 : decode cX5_stepToHold 19 = .ok (.aload_n 0, 1) := by decide +kernel
theorem dX5_stepToHold_20 : decode cX5_stepToHold 20 = .ok (.invokevirtual 122, 3) := by decide +kernel
theorem dX5_stepToHold_23 : decode cX5_stepToHold 23 = .ok (.aload_n 0, 1) := by decide +kernel
theorem dX5_stepToHold_24 : decode cX5_stepToHold 24 = .ok (.getfield 66, 3) := by decide +kernel
theorem dX5_stepToHold_27 : decode cX5_stepToHold 27 = .ok (.if_icmp .ge 10, 3) := by decide +kernel
theorem dX5_stepToHold_30 : decode cX5_stepToHold 30 = .ok (.bipush 100, 2) := by decide +kernel
theorem dX5_stepToHold_32 : decode cX5_stepToHold 32 = .ok (.iload_n 1, 1) := by decide +kernel
theorem dX5_stepToHold_33 : decode cX5_stepToHold 33 = .ok (.iadd, 1) := by decide +kernel
theorem dX5_stepToHold_34 : decode cX5_stepToHold 34 = .ok (.goto 11, 3) := by decide +kernel
theorem dX5_stepToHold_37 : decode cX5_stepToHold 37 = .ok (.sipush 200, 3) := by decide +kernel
theorem dX5_stepToHold_40 : decode cX5_stepToHold 40 = .ok (.aload_n 0, 1) := by decide +kernel
theorem dX5_stepToHold_41 : decode cX5_stepToHold 41 = .ok (.invokevirtual 126, 3) := by decide +kernel
theorem dX5_stepToHold_44 : decode cX5_stepToHold 44 = .ok (.iadd, 1) := by decide +kernel
theorem dX5_stepToHold_45 : decode cX5_stepToHold 45 = .ok (.ireturn, 1) := by decide +kernel
theorem dX5_lowestHeld_0 : decode cX5_lowestHeld 0 = .ok (.iconst 0, 1) := by decide +kernel
theorem dX5_lowestHeld_1 : decode cX5_lowestHeld 1 = .ok (.istore_n 1, 1) := by decide +kernel
theorem dX5_lowestHeld_2 : decode cX5_lowestHeld 2 = .ok (.iload_n 1, 1) := by decide +kernel
theorem dX5_lowestHeld_3 : decode cX5_lowestHeld 3 = .ok (.aload_n 0, 1) := by decide +kernel
theorem dX5_lowestHeld_4 : decode cX5_lowestHeld 4 = .ok (.getfield 57, 3) := by decide +kernel
theorem dX5_lowestHeld_7 : decode cX5_lowestHeld 7 = .ok (.if_icmp .ge 17, 3) := by decide +kernel
theorem dX5_lowestHeld_10 : decode cX5_lowestHeld 10 = .ok (.aload_n 0, 1) := by decide +kernel
theorem dX5_lowestHeld_11 : decode cX5_lowestHeld 11 = .ok (.iload_n 1, 1) := by decide +kernel
theorem dX5_lowestHeld_12 : decode cX5_lowestHeld 12 = .ok (.invokevirtual 91, 3) := by decide +kernel
theorem dX5_lowestHeld_15 : decode cX5_lowestHeld 15 = .ok (.ifCond .ne 9, 3) := by decide +kernel
theorem dX5_lowestHeld_18 : decode cX5_lowestHeld 18 = .ok (.iinc 1 1, 3) := by decide +kernel
theorem dX5_lowestHeld_21 : decode cX5_lowestHeld 21 = .ok (.goto (-19), 3) := by decide +kernel
theorem dX5_lowestHeld_24 : decode cX5_lowestHeld 24 = .ok (.iload_n 1, 1) := by decide +kernel
theorem dX5_lowestHeld_25 : decode cX5_lowestHeld 25 = .ok (.ireturn, 1) := by decide +kernel
theorem dX5_stepForCode_0 : decode cX5_stepForCode 0 = .ok (.aload_n 0, 1) := by decide +kernel
theorem dX5_stepForCode_1 : decode cX5_stepForCode 1 = .ok (.iload_n 1, 1) := by decide +kernel
theorem dX5_stepForCode_2 : decode cX5_stepForCode 2 = .ok (.invokevirtual 129, 3) := by decide +kernel
theorem dX5_stepForCode_5 : decode cX5_stepForCode 5 = .ok (.istore_n 2, 1) := by decide +kernel
theorem dX5_stepForCode_6 : decode cX5_stepForCode 6 = .ok (.iload_n 2, 1) := by decide +kernel
theorem dX5_stepForCode_7 : decode cX5_stepForCode 7 = .ok (.iconst 4, 1) := by decide +kernel
theorem dX5_stepForCode_8 : decode cX5_stepForCode 8 = .ok (.if_icmp .ne 9, 3) := by decide +kernel
theorem dX5_stepForCode_11 : decode cX5_stepForCode 11 = .ok (.sipush 300, 3) := by decide +kernel
theorem dX5_stepForCode_14 : decode cX5_stepForCode 14 = .ok (.iload_n 1, 1) := by decide +kernel
theorem dX5_stepForCode_15 : decode cX5_stepForCode 15 = .ok (.iadd, 1) := by decide +kernel
theorem dX5_stepForCode_16 : decode cX5_stepForCode 16 = .ok (.ireturn, 1) := by decide +kernel
theorem dX5_stepForCode_17 : decode cX5_stepForCode 17 = .ok (.iconst (-1), 1) := by decide +kernel
theorem dX5_stepForCode_18 : decode cX5_stepForCode 18 = .ok (.istore_n 3, 1) := by decide +kernel
theorem dX5_stepForCode_19 : decode cX5_stepForCode 19 = .ok (.iconst (-1), 1) := by decide +kernel
theorem dX5_stepForCode_20 : decode cX5_stepForCode 20 = .ok (.istore 4, 2) := by decide +kernel
theorem dX5_stepForCode_22 : decode cX5_stepForCode 22 = .ok (.aload_n 0, 1) := by decide +kernel
theorem dX5_stepForCode_23 : decode cX5_stepForCode 23 = .ok (.getfield 60, 3) := by decide +kernel
theorem dX5_stepForCode_26 : decode cX5_stepForCode 26 = .ok (.iconst 1, 1) := by decide +kernel
theorem dX5_stepForCode_27 : decode cX5_stepForCode 27 = .ok (.isub, 1) := by decide +kernel
theorem dX5_stepForCode_28 : decode cX5_stepForCode 28 = .ok (.istore 5, 2) := by decide +kernel
theorem dX5_stepForCode_30 : decode cX5_stepForCode 30 = .ok (.iload 5, 2) := by decide +kernel
theorem dX5_stepForCode_32 : decode cX5_stepForCode 32 = .ok (.ifCond .lt 87, 3) := by decide +kernel
theorem dX5_stepForCode_35 : decode cX5_stepForCode 35 = .ok (.aload_n 0, 1) := by decide +kernel
theorem dX5_stepForCode_36 : decode cX5_stepForCode 36 = .ok (.getfield 36, 3) := by decide +kernel
theorem dX5_stepForCode_39 : decode cX5_stepForCode 39 = .ok (.iload 5, 2) := by decide +kernel
theorem dX5_stepForCode_41 : decode cX5_stepForCode 41 = .ok (.invokestatic 69, 3) := by decide +kernel
theorem dX5_stepForCode_44 : decode cX5_stepForCode 44 = .ok (.iload_n 1, 1) := by decide +kernel
theorem dX5_stepForCode_45 : decode cX5_stepForCode 45 = .ok (.if_icmp .ne 68, 3) := by decide +kernel
theorem dX5_stepForCode_48 : decode cX5_stepForCode 48 = .ok (.aload_n 0, 1) := by decide +kernel
theorem dX5_stepForCode_49 : decode cX5_stepForCode 49 = .ok (.getfield 39, 3) := by decide +kernel
theorem dX5_stepForCode_52 : decode cX5_stepForCode 52 = .ok (.iload 5, 2) := by decide +kernel
theorem dX5_stepForCode_54 : decode cX5_stepForCode 54 = .ok (.invokestatic 69, 3) := by decide +kernel
theorem dX5_stepForCode_57 : decode cX5_stepForCode 57 = .ok (.iload_n 2, 1) := by decide +kernel
theorem dX5_stepForCode_58 : decode cX5_stepForCode 58 = .ok (.if_icmp .ne 55, 3) := by decide +kernel
theorem dX5_stepForCode_61 : decode cX5_stepForCode 61 = .ok (.aload_n 0, 1) := by decide +kernel
theorem dX5_stepForCode_62 : decode cX5_stepForCode 62 = .ok (.getfield 42, 3) := by decide +kernel
theorem dX5_stepForCode_65 : decode cX5_stepForCode 65 = .ok (.iload 5, 2) := by decide +kernel
theorem dX5_stepForCode_67 : decode cX5_stepForCode 67 = .ok (.invokestatic 69, 3) := by decide +kernel
theorem dX5_stepForCode_70 : decode cX5_stepForCode 70 = .ok (.ifCond .le 43, 3) := by decide +kernel
theorem dX5_stepForCode_73 : decode cX5_stepForCode 73 = .ok (.iload 5, 2) := by decide +kernel
theorem dX5_stepForCode_75 : decode cX5_stepForCode 75 = .ok (.istore 4, 2) := by decide +kernel
theorem dX5_stepForCode_77 : decode cX5_stepForCode 77 = .ok (.aload_n 0, 1) := by decide +kernel
theorem dX5_stepForCode_78 : decode cX5_stepForCode 78 = .ok (.iload 5, 2) := by decide +kernel
theorem dX5_stepForCode_80 : decode cX5_stepForCode 80 = .ok (.invokevirtual 97, 3) := by decide +kernel
theorem dX5_stepForCode_83 : decode cX5_stepForCode 83 = .ok (.ifCond .eq 30, 3) := by decide +kernel
theorem dX5_stepForCode_86 : decode cX5_stepForCode 86 = .ok (.iload_n 3, 1) := by decide +kernel
theorem dX5_stepForCode_87 : decode cX5_stepForCode 87 = .ok (.ifCond .lt 23, 3) := by decide +kernel
theorem dX5_stepForCode_90 : decode cX5_stepForCode 90 = .ok (.aload_n 0, 1) := by decide +kernel
theorem dX5_stepForCode_91 : decode cX5_stepForCode 91 = .ok (.getfield 42, 3) := by decide +kernel
theorem dX5_stepForCode_94 : decode cX5_stepForCode 94 = .ok (.iload 5, 2) := by decide +kernel
theorem dX5_stepForCode_96 : decode cX5_stepForCode 96 = .ok (.invokestatic 69, 3) := by decide +kernel
theorem dX5_stepForCode_99 : decode cX5_stepForCode 99 = .ok (.aload_n 0, 1) := by decide +kernel
theorem dX5_stepForCode_100 : decode cX5_stepForCode 100 = .ok (.getfield 42, 3) := by decide +kernel
theorem dX5_stepForCode_103 : decode cX5_stepForCode 103 = .ok (.iload_n 3, 1) := by decide +kernel
theorem dX5_stepForCode_104 : decode cX5_stepForCode 104 = .ok (.invokestatic 69, 3) := by decide +kernel
theorem dX5_stepForCode_107 : decode cX5_stepForCode 107 = .ok (.if_icmp .lt 6, 3) := by decide +kernel
theorem dX5_stepForCode_110 : decode cX5_stepForCode 110 = .ok (.iload 5, 2) := by decide +kernel
theorem dX5_stepForCode_112 : decode cX5_stepForCode 112 = .ok (.istore_n 3, 1) := by decide +kernel
theorem dX5_stepForCode_113 : decode cX5_stepForCode 113 = .ok (.iinc 5 (-1), 3) := by decide +kernel
theorem dX5_stepForCode_116 : decode cX5_stepForCode 116 = .ok (.goto (-86), 3) := by decide +kernel
theorem dX5_stepForCode_119 : decode cX5_stepForCode 119 = .ok (.iload_n 3, 1) := by decide +kernel
theorem dX5_stepForCode_120 : decode cX5_stepForCode 120 = .ok (.ifCond .lt 9, 3) := by decide +kernel
theorem dX5_stepForCode_123 : decode cX5_stepForCode 123 = .ok (.sipush 400, 3) := by decide +kernel
theorem dX5_stepForCode_126 : decode cX5_stepForCode 126 = .ok (.iload_n 3, 1) := by decide +kernel
theorem dX5_stepForCode_127 : decode cX5_stepForCode 127 = .ok (.iadd, 1) := by decide +kernel
theorem dX5_stepForCode_128 : decode cX5_stepForCode 128 = .ok (.ireturn, 1) := by decide +kernel
theorem dX5_stepForCode_129 : decode cX5_stepForCode 129 = .ok (.iload 4, 2) := by decide +kernel
theorem dX5_stepForCode_131 : decode cX5_stepForCode 131 = .ok (.ifCond .lt 26, 3) := by decide +kernel
theorem dX5_stepForCode_134 : decode cX5_stepForCode 134 = .ok (.aload_n 0, 1) := by decide +kernel
theorem dX5_stepForCode_135 : decode cX5_stepForCode 135 = .ok (.aload_n 0, 1) := by decide +kernel
theorem dX5_stepForCode_136 : decode cX5_stepForCode 136 = .ok (.getfield 30, 3) := by decide +kernel
theorem dX5_stepForCode_139 : decode cX5_stepForCode 139 = .ok (.aload_n 0, 1) := by decide +kernel
theorem dX5_stepForCode_140 : decode cX5_stepForCode 140 = .ok (.getfield 33, 3) := by decide +kernel
theorem dX5_stepForCode_143 : decode cX5_stepForCode 143 = .ok (.iload 4, 2) := by decide +kernel
theorem dX5_stepForCode_145 : decode cX5_stepForCode 145 = .ok (.invokestatic 69, 3) := by decide +kernel
theorem dX5_stepForCode_148 : decode cX5_stepForCode 148 = .ok (.invokestatic 69, 3) := by decide +kernel
theorem dX5_stepForCode_151 : decode cX5_stepForCode 151 = .ok (.invokevirtual 73, 3) := by decide +kernel
theorem dX5_stepForCode_154 : decode cX5_stepForCode 154 = .ok (.goto 14, 3) := by decide +kernel
theorem dX5_stepForCode_157 : decode cX5_stepForCode 157 = .ok (.sipush 500, 3) := by decide +kernel
theorem dX5_stepForCode_160 : decode cX5_stepForCode 160 = .ok (.iload_n 2, 1) := by decide +kernel
theorem dX5_stepForCode_161 : decode cX5_stepForCode 161 = .ok (.iadd, 1) := by decide +kernel
theorem dX5_stepForCode_162 : decode cX5_stepForCode 162 = .ok (.sipush 1000, 3) := by decide +kernel
theorem dX5_stepForCode_165 : decode cX5_stepForCode 165 = .ok (.iload_n 1, 1) := by decide +kernel
theorem dX5_stepForCode_166 : decode cX5_stepForCode 166 = .ok (.imul, 1) := by decide +kernel
theorem dX5_stepForCode_167 : decode cX5_stepForCode 167 = .ok (.iadd, 1) := by decide +kernel
theorem dX5_stepForCode_168 : decode cX5_stepForCode 168 = .ok (.ireturn, 1) := by decide +kernel
theorem dX5_lowestUnknownPlace_0 : decode cX5_lowestUnknownPlace 0 = .ok (.iconst 0, 1) := by decide +kernel
theorem dX5_lowestUnknownPlace_1 : decode cX5_lowestUnknownPlace 1 = .ok (.istore_n 2, 1) := by decide +kernel
theorem dX5_lowestUnknownPlace_2 : decode cX5_lowestUnknownPlace 2 = .ok (.iload_n 2, 1) := by decide +kernel
theorem dX5_lowestUnknownPlace_3 : decode cX5_lowestUnknownPlace 3 = .ok (.iconst 4, 1) := by decide +kernel
theorem dX5_lowestUnknownPlace_4 : decode cX5_lowestUnknownPlace 4 = .ok (.if_icmp .ge 25, 3) := by decide +kernel
theorem dX5_lowestUnknownPlace_7 : decode cX5_lowestUnknownPlace 7 = .ok (.aload_n 0, 1) := by decide +kernel
theorem dX5_lowestUnknownPlace_8 : decode cX5_lowestUnknownPlace 8 = .ok (.getfield 24, 3) := by decide +kernel
theorem dX5_lowestUnknownPlace_11 : decode cX5_lowestUnknownPlace 11 = .ok (.iload_n 1, 1) := by decide +kernel
theorem dX5_lowestUnknownPlace_12 : decode cX5_lowestUnknownPlace 12 = .ok (.invokestatic 69, 3) := by decide +kernel
theorem dX5_lowestUnknownPlace_15 : decode cX5_lowestUnknownPlace 15 = .ok (.iload_n 2, 1) := by decide +kernel
theorem dX5_lowestUnknownPlace_16 : decode cX5_lowestUnknownPlace 16 = .ok (.ishr, 1) := by decide +kernel
theorem dX5_lowestUnknownPlace_17 : decode cX5_lowestUnknownPlace 17 = .ok (.iconst 1, 1) := by decide +kernel
end
section
theorem dX5_lowestUnknownPlace_18 : decode cX5_lowestUnknownPlace 18 = .ok (.iand, 1) := by decide +kernel
theorem dX5_lowestUnknownPlace_19 : decode cX5_lowestUnknownPlace 19 = .ok (.iconst 1, 1) := by decide +kernel
theorem dX5_lowestUnknownPlace_20 : decode cX5_lowestUnknownPlace 20 = .ok (.if_icmp .ne 9, 3) := by decide +kernel
theorem dX5_lowestUnknownPlace_23 : decode cX5_lowestUnknownPlace 23 = .ok (.iinc 2 1, 3) := by decide +kernel
theorem dX5_lowestUnknownPlace_26 : decode cX5_lowestUnknownPlace 26 = .ok (.goto (-24), 3) := by decide +kernel
theorem dX5_lowestUnknownPlace_29 : decode cX5_lowestUnknownPlace 29 = .ok (.iload_n 2, 1) := by decide +kernel
theorem dX5_lowestUnknownPlace_30 : decode cX5_lowestUnknownPlace 30 = .ok (.ireturn, 1) := by decide +kernel
theorem dX5_minutesToExit_0 : decode cX5_minutesToExit 0 = .ok (.iconst 0, 1) := by decide +kernel
theorem dX5_minutesToExit_1 : decode cX5_minutesToExit 1 = .ok (.istore_n 1, 1) := by decide +kernel
theorem dX5_minutesToExit_2 : decode cX5_minutesToExit 2 = .ok (.iconst 0, 1) := by decide +kernel
theorem dX5_minutesToExit_3 : decode cX5_minutesToExit 3 = .ok (.istore_n 2, 1) := by decide +kernel
theorem dX5_minutesToExit_4 : decode cX5_minutesToExit 4 = .ok (.iload_n 2, 1) := by decide +kernel
theorem dX5_minutesToExit_5 : decode cX5_minutesToExit 5 = .ok (.sipush 1000, 3) := by decide +kernel
theorem dX5_minutesToExit_8 : decode cX5_minutesToExit 8 = .ok (.if_icmp .ge 58, 3) := by decide +kernel
theorem dX5_minutesToExit_11 : decode cX5_minutesToExit 11 = .ok (.aload_n 0, 1) := by decide +kernel
theorem dX5_minutesToExit_12 : decode cX5_minutesToExit 12 = .ok (.aload_n 0, 1) := by decide +kernel
theorem dX5_minutesToExit_13 : decode cX5_minutesToExit 13 = .ok (.getfield 63, 3) := by decide +kernel
theorem dX5_minutesToExit_16 : decode cX5_minutesToExit 16 = .ok (.invokevirtual 77, 3) := by decide +kernel
theorem dX5_minutesToExit_19 : decode cX5_minutesToExit 19 = .ok (.ifCond .ne 47, 3) := by decide +kernel
theorem dX5_minutesToExit_22 : decode cX5_minutesToExit 22 = .ok (.aload_n 0, 1) := by decide +kernel
theorem dX5_minutesToExit_23 : decode cX5_minutesToExit 23 = .ok (.aload_n 0, 1) := by decide +kernel
theorem dX5_minutesToExit_24 : decode cX5_minutesToExit 24 = .ok (.getfield 63, 3) := by decide +kernel
theorem dX5_minutesToExit_27 : decode cX5_minutesToExit 27 = .ok (.invokevirtual 132, 3) := by decide +kernel
theorem dX5_minutesToExit_30 : decode cX5_minutesToExit 30 = .ok (.istore_n 3, 1) := by decide +kernel
theorem dX5_minutesToExit_31 : decode cX5_minutesToExit 31 = .ok (.iload_n 3, 1) := by decide +kernel
theorem dX5_minutesToExit_32 : decode cX5_minutesToExit 32 = .ok (.bipush (-5), 2) := by decide +kernel
theorem dX5_minutesToExit_34 : decode cX5_minutesToExit 34 = .ok (.if_icmp .ne 6, 3) := by decide +kernel
theorem dX5_minutesToExit_37 : decode cX5_minutesToExit 37 = .ok (.bipush (-5), 2) := by decide +kernel
theorem dX5_minutesToExit_39 : decode cX5_minutesToExit 39 = .ok (.ireturn, 1) := by decide +kernel
theorem dX5_minutesToExit_40 : decode cX5_minutesToExit 40 = .ok (.iload_n 1, 1) := by decide +kernel
theorem dX5_minutesToExit_41 : decode cX5_minutesToExit 41 = .ok (.aload_n 0, 1) := by decide +kernel
theorem dX5_minutesToExit_42 : decode cX5_minutesToExit 42 = .ok (.iload_n 3, 1) := by decide +kernel
theorem dX5_minutesToExit_43 : decode cX5_minutesToExit 43 = .ok (.invokestatic 135, 3) := by decide +kernel
theorem dX5_minutesToExit_46 : decode cX5_minutesToExit 46 = .ok (.iload_n 3, 1) := by decide +kernel
theorem dX5_minutesToExit_47 : decode cX5_minutesToExit 47 = .ok (.bipush 100, 2) := by decide +kernel
theorem dX5_minutesToExit_49 : decode cX5_minutesToExit 49 = .ok (.irem, 1) := by decide +kernel
theorem dX5_minutesToExit_50 : decode cX5_minutesToExit 50 = .ok (.iload_n 3, 1) := by decide +kernel
theorem dX5_minutesToExit_51 : decode cX5_minutesToExit 51 = .ok (.sipush 1000, 3) := by decide +kernel
theorem dX5_minutesToExit_54 : decode cX5_minutesToExit 54 = .ok (.idiv, 1) := by decide +kernel
theorem dX5_minutesToExit_55 : decode cX5_minutesToExit 55 = .ok (.invokevirtual 138, 3) := by decide +kernel
theorem dX5_minutesToExit_58 : decode cX5_minutesToExit 58 = .ok (.iadd, 1) := by decide +kernel
theorem dX5_minutesToExit_59 : decode cX5_minutesToExit 59 = .ok (.istore_n 1, 1) := by decide +kernel
theorem dX5_minutesToExit_60 : decode cX5_minutesToExit 60 = .ok (.iinc 2 1, 3) := by decide +kernel
theorem dX5_minutesToExit_63 : decode cX5_minutesToExit 63 = .ok (.goto (-59), 3) := by decide +kernel
theorem dX5_minutesToExit_66 : decode cX5_minutesToExit 66 = .ok (.aload_n 0, 1) := by decide +kernel
theorem dX5_minutesToExit_67 : decode cX5_minutesToExit 67 = .ok (.aload_n 0, 1) := by decide +kernel
theorem dX5_minutesToExit_68 : decode cX5_minutesToExit 68 = .ok (.getfield 63, 3) := by decide +kernel
theorem dX5_minutesToExit_71 : decode cX5_minutesToExit 71 = .ok (.invokevirtual 77, 3) := by decide +kernel
theorem dX5_minutesToExit_74 : decode cX5_minutesToExit 74 = .ok (.ifCond .eq 7, 3) := by decide +kernel
theorem dX5_minutesToExit_77 : decode cX5_minutesToExit 77 = .ok (.iload_n 1, 1) := by decide +kernel
theorem dX5_minutesToExit_78 : decode cX5_minutesToExit 78 = .ok (.goto 5, 3) := by decide +kernel
theorem dX5_minutesToExit_81 : decode cX5_minutesToExit 81 = .ok (.bipush (-5), 2) := by decide +kernel
theorem dX5_minutesToExit_83 : decode cX5_minutesToExit 83 = .ok (.ireturn, 1) := by decide +kernel
theorem dX5_follow_0 : decode cX5_follow 0 = .ok (.iload_n 1, 1) := by decide +kernel
theorem dX5_follow_1 : decode cX5_follow 1 = .ok (.lookupswitch 112 #[(100, 43), (200, 61), (300, 79), (400, 97)], 43) := by decide +kernel
theorem dX5_follow_44 : decode cX5_follow 44 = .ok (.aload_n 0, 1) := by decide +kernel
theorem dX5_follow_45 : decode cX5_follow 45 = .ok (.getfield 30, 3) := by decide +kernel
theorem dX5_follow_48 : decode cX5_follow 48 = .ok (.iload_n 2, 1) := by decide +kernel
theorem dX5_follow_49 : decode cX5_follow 49 = .ok (.iconst (-1), 1) := by decide +kernel
theorem dX5_follow_50 : decode cX5_follow 50 = .ok (.invokestatic 49, 3) := by decide +kernel
theorem dX5_follow_53 : decode cX5_follow 53 = .ok (.iconst 3, 1) := by decide +kernel
theorem dX5_follow_54 : decode cX5_follow 54 = .ok (.aload_n 0, 1) := by decide +kernel
theorem dX5_follow_55 : decode cX5_follow 55 = .ok (.getfield 66, 3) := by decide +kernel
theorem dX5_follow_58 : decode cX5_follow 58 = .ok (.invokestatic 106, 3) := by decide +kernel
theorem dX5_follow_61 : decode cX5_follow 61 = .ok (.ireturn, 1) := by decide +kernel
theorem dX5_follow_62 : decode cX5_follow 62 = .ok (.aload_n 0, 1) := by decide +kernel
theorem dX5_follow_63 : decode cX5_follow 63 = .ok (.getfield 30, 3) := by decide +kernel
theorem dX5_follow_66 : decode cX5_follow 66 = .ok (.iload_n 2, 1) := by decide +kernel
theorem dX5_follow_67 : decode cX5_follow 67 = .ok (.iload_n 3, 1) := by decide +kernel
theorem dX5_follow_68 : decode cX5_follow 68 = .ok (.invokestatic 49, 3) := by decide +kernel
theorem dX5_follow_71 : decode cX5_follow 71 = .ok (.iconst 2, 1) := by decide +kernel
theorem dX5_follow_72 : decode cX5_follow 72 = .ok (.aload_n 0, 1) := by decide +kernel
theorem dX5_follow_73 : decode cX5_follow 73 = .ok (.getfield 66, 3) := by decide +kernel
theorem dX5_follow_76 : decode cX5_follow 76 = .ok (.invokestatic 106, 3) := by decide +kernel
theorem dX5_follow_79 : decode cX5_follow 79 = .ok (.ireturn, 1) := by decide +kernel
theorem dX5_follow_80 : decode cX5_follow 80 = .ok (.aload_n 0, 1) := by decide +kernel
theorem dX5_follow_81 : decode cX5_follow 81 = .ok (.getfield 21, 3) := by decide +kernel
theorem dX5_follow_84 : decode cX5_follow 84 = .ok (.iload_n 2, 1) := by decide +kernel
theorem dX5_follow_85 : decode cX5_follow 85 = .ok (.iconst 1, 1) := by decide +kernel
theorem dX5_follow_86 : decode cX5_follow 86 = .ok (.invokestatic 49, 3) := by decide +kernel
theorem dX5_follow_89 : decode cX5_follow 89 = .ok (.iconst 4, 1) := by decide +kernel
theorem dX5_follow_90 : decode cX5_follow 90 = .ok (.aload_n 0, 1) := by decide +kernel
theorem dX5_follow_91 : decode cX5_follow 91 = .ok (.getfield 66, 3) := by decide +kernel
theorem dX5_follow_94 : decode cX5_follow 94 = .ok (.invokestatic 106, 3) := by decide +kernel
theorem dX5_follow_97 : decode cX5_follow 97 = .ok (.ireturn, 1) := by decide +kernel
theorem dX5_follow_98 : decode cX5_follow 98 = .ok (.aload_n 0, 1) := by decide +kernel
theorem dX5_follow_99 : decode cX5_follow 99 = .ok (.iload_n 2, 1) := by decide +kernel
theorem dX5_follow_100 : decode cX5_follow 100 = .ok (.invokevirtual 142, 3) := by decide +kernel
theorem dX5_follow_103 : decode cX5_follow 103 = .ok (.istore 4, 2) := by decide +kernel
theorem dX5_follow_105 : decode cX5_follow 105 = .ok (.aload_n 0, 1) := by decide +kernel
theorem dX5_follow_106 : decode cX5_follow 106 = .ok (.iload_n 2, 1) := by decide +kernel
theorem dX5_follow_107 : decode cX5_follow 107 = .ok (.invokevirtual 145, 3) := by decide +kernel
theorem dX5_follow_110 : decode cX5_follow 110 = .ok (.iload 4, 2) := by decide +kernel
theorem dX5_follow_112 : decode cX5_follow 112 = .ok (.ireturn, 1) := by decide +kernel
theorem dX5_follow_113 : decode cX5_follow 113 = .ok (.aload_n 0, 1) := by decide +kernel
theorem dX5_follow_114 : decode cX5_follow 114 = .ok (.iload_n 3, 1) := by decide +kernel
theorem dX5_follow_115 : decode cX5_follow 115 = .ok (.iload_n 2, 1) := by decide +kernel
theorem dX5_follow_116 : decode cX5_follow 116 = .ok (.invokevirtual 109, 3) := by decide +kernel
theorem dX5_follow_119 : decode cX5_follow 119 = .ok (.iconst 2, 1) := by decide +kernel
theorem dX5_follow_120 : decode cX5_follow 120 = .ok (.ireturn, 1) := by decide +kernel
end
section
theorem dX6_init_0 : decode cX6_init 0 = .ok (.aload_n 0, 1) := by decide +kernel
theorem dX6_init_1 : decode cX6_init 1 = .ok (.invokespecial 3, 3) := by decide +kernel
theorem dX6_init_4 : decode cX6_init 4 = .ok (.aload_n 0, 1) := by decide +kernel
theorem dX6_init_5 : decode cX6_init 5 = .ok (.new 9, 3) := by decide +kernel
theorem dX6_init_8 : decode cX6_init 8 = .ok (.dup, 1) := by decide +kernel
theorem dX6_init_9 : decode cX6_init 9 = .ok (.invokespecial 11, 3) := by decide +kernel
theorem dX6_init_12 : decode cX6_init 12 = .ok (.putfield 12, 3) := by decide +kernel
theorem dX6_init_15 : decode cX6_init 15 = .ok (.aload_n 0, 1) := by decide +kernel
theorem dX6_init_16 : decode cX6_init 16 = .ok (.new 18, 3) := by decide +kernel
theorem dX6_init_19 : decode cX6_init 19 = .ok (.dup, 1) := by decide +kernel
theorem dX6_init_20 : decode cX6_init 20 = .ok (.invokespecial 20, 3) := by decide +kernel
theorem dX6_init_23 : decode cX6_init 23 = .ok (.putfield 21, 3) := by decide +kernel
theorem dX6_init_26 : decode cX6_init 26 = .ok (.aload_n 0, 1) := by decide +kernel
theorem dX6_init_27 : decode cX6_init 27 = .ok (.new 25, 3) := by decide +kernel
theorem dX6_init_30 : decode cX6_init 30 = .ok (.dup, 1) := by decide +kernel
theorem dX6_init_31 : decode cX6_init 31 = .ok (.invokespecial 27, 3) := by decide +kernel
theorem dX6_init_34 : decode cX6_init 34 = .ok (.putfield 28, 3) := by decide +kernel
theorem dX6_init_37 : decode cX6_init 37 = .ok (.aload_n 0, 1) := by decide +kernel
theorem dX6_init_38 : decode cX6_init 38 = .ok (.new 32, 3) := by decide +kernel
theorem dX6_init_41 : decode cX6_init 41 = .ok (.dup, 1) := by decide +kernel
theorem dX6_init_42 : decode cX6_init 42 = .ok (.invokespecial 34, 3) := by decide +kernel
theorem dX6_init_45 : decode cX6_init 45 = .ok (.putfield 35, 3) := by decide +kernel
theorem dX6_init_48 : decode cX6_init 48 = .ok (.aload_n 0, 1) := by decide +kernel
theorem dX6_init_49 : decode cX6_init 49 = .ok (.new 39, 3) := by decide +kernel
theorem dX6_init_52 : decode cX6_init 52 = .ok (.dup, 1) := by decide +kernel
theorem dX6_init_53 : decode cX6_init 53 = .ok (.invokespecial 41, 3) := by decide +kernel
theorem dX6_init_56 : decode cX6_init 56 = .ok (.putfield 42, 3) := by decide +kernel
theorem dX6_init_59 : decode cX6_init 59 = .ok (.aload_n 0, 1) := by decide +kernel
theorem dX6_init_60 : decode cX6_init 60 = .ok (.bipush 60, 2) := by decide +kernel
theorem dX6_init_62 : decode cX6_init 62 = .ok (.putfield 46, 3) := by decide +kernel
theorem dX6_init_65 : decode cX6_init 65 = .ok (.aload_n 0, 1) := by decide +kernel
theorem dX6_init_66 : decode cX6_init 66 = .ok (.iconst 3, 1) := by decide +kernel
theorem dX6_init_67 : decode cX6_init 67 = .ok (.putfield 50, 3) := by decide +kernel
theorem dX6_init_70 : decode cX6_init 70 = .ok (.return_, 1) := by decide +kernel
theorem dX6_copyFrom_0 : decode cX6_copyFrom 0 = .ok (.aload_n 0, 1) := by decide +kernel
theorem dX6_copyFrom_1 : decode cX6_copyFrom 1 = .ok (.getfield 12, 3) := by decide +kernel
theorem dX6_copyFrom_4 : decode cX6_copyFrom 4 = .ok (.aload_n 1, 1) := by decide +kernel
theorem dX6_copyFrom_5 : decode cX6_copyFrom 5 = .ok (.getfield 12, 3) := by decide +kernel
theorem dX6_copyFrom_8 : decode cX6_copyFrom 8 = .ok (.invokevirtual 53, 3) := by decide +kernel
theorem dX6_copyFrom_11 : decode cX6_copyFrom 11 = .ok (.aload_n 0, 1) := by decide +kernel
theorem dX6_copyFrom_12 : decode cX6_copyFrom 12 = .ok (.getfield 21, 3) := by decide +kernel
theorem dX6_copyFrom_15 : decode cX6_copyFrom 15 = .ok (.aload_n 1, 1) := by decide +kernel
theorem dX6_copyFrom_16 : decode cX6_copyFrom 16 = .ok (.getfield 21, 3) := by decide +kernel
theorem dX6_copyFrom_19 : decode cX6_copyFrom 19 = .ok (.invokevirtual 57, 3) := by decide +kernel
theorem dX6_copyFrom_22 : decode cX6_copyFrom 22 = .ok (.aload_n 0, 1) := by decide +kernel
theorem dX6_copyFrom_23 : decode cX6_copyFrom 23 = .ok (.getfield 28, 3) := by decide +kernel
theorem dX6_copyFrom_26 : decode cX6_copyFrom 26 = .ok (.aload_n 1, 1) := by decide +kernel
theorem dX6_copyFrom_27 : decode cX6_copyFrom 27 = .ok (.getfield 28, 3) := by decide +kernel
theorem dX6_copyFrom_30 : decode cX6_copyFrom 30 = .ok (.invokevirtual 60, 3) := by decide +kernel
theorem dX6_copyFrom_33 : decode cX6_copyFrom 33 = .ok (.aload_n 0, 1) := by decide +kernel
theorem dX6_copyFrom_34 : decode cX6_copyFrom 34 = .ok (.getfield 35, 3) := by decide +kernel
theorem dX6_copyFrom_37 : decode cX6_copyFrom 37 = .ok (.aload_n 1, 1) := by decide +kernel
theorem dX6_copyFrom_38 : decode cX6_copyFrom 38 = .ok (.getfield 35, 3) := by decide +kernel
theorem dX6_copyFrom_41 : decode cX6_copyFrom 41 = .ok (.invokevirtual 63, 3) := by decide +kernel
theorem dX6_copyFrom_44 : decode cX6_copyFrom 44 = .ok (.aload_n 0, 1) := by decide +kernel
theorem dX6_copyFrom_45 : decode cX6_copyFrom 45 = .ok (.getfield 42, 3) := by decide +kernel
theorem dX6_copyFrom_48 : decode cX6_copyFrom 48 = .ok (.aload_n 1, 1) := by decide +kernel
theorem dX6_copyFrom_49 : decode cX6_copyFrom 49 = .ok (.getfield 42, 3) := by decide +kernel
theorem dX6_copyFrom_52 : decode cX6_copyFrom 52 = .ok (.invokevirtual 66, 3) := by decide +kernel
theorem dX6_copyFrom_55 : decode cX6_copyFrom 55 = .ok (.aload_n 0, 1) := by decide +kernel
theorem dX6_copyFrom_56 : decode cX6_copyFrom 56 = .ok (.aload_n 1, 1) := by decide +kernel
theorem dX6_copyFrom_57 : decode cX6_copyFrom 57 = .ok (.getfield 69, 3) := by decide +kernel
theorem dX6_copyFrom_60 : decode cX6_copyFrom 60 = .ok (.putfield 69, 3) := by decide +kernel
theorem dX6_copyFrom_63 : decode cX6_copyFrom 63 = .ok (.aload_n 0, 1) := by decide +kernel
theorem dX6_copyFrom_64 : decode cX6_copyFrom 64 = .ok (.aload_n 1, 1) := by decide +kernel
theorem dX6_copyFrom_65 : decode cX6_copyFrom 65 = .ok (.getfield 72, 3) := by decide +kernel
theorem dX6_copyFrom_68 : decode cX6_copyFrom 68 = .ok (.putfield 72, 3) := by decide +kernel
theorem dX6_copyFrom_71 : decode cX6_copyFrom 71 = .ok (.aload_n 0, 1) := by decide +kernel
theorem dX6_copyFrom_72 : decode cX6_copyFrom 72 = .ok (.aload_n 1, 1) := by decide +kernel
theorem dX6_copyFrom_73 : decode cX6_copyFrom 73 = .ok (.getfield 46, 3) := by decide +kernel
theorem dX6_copyFrom_76 : decode cX6_copyFrom 76 = .ok (.putfield 46, 3) := by decide +kernel
theorem dX6_copyFrom_79 : decode cX6_copyFrom 79 = .ok (.aload_n 0, 1) := by decide +kernel
theorem dX6_copyFrom_80 : decode cX6_copyFrom 80 = .ok (.aload_n 1, 1) := by decide +kernel
theorem dX6_copyFrom_81 : decode cX6_copyFrom 81 = .ok (.getfield 50, 3) := by decide +kernel
theorem dX6_copyFrom_84 : decode cX6_copyFrom 84 = .ok (.putfield 50, 3) := by decide +kernel
theorem dX6_copyFrom_87 : decode cX6_copyFrom 87 = .ok (.return_, 1) := by decide +kernel
theorem dX6_pass_0 : decode cX6_pass 0 = .ok (.aload_n 0, 1) := by decide +kernel
theorem dX6_pass_1 : decode cX6_pass 1 = .ok (.getfield 69, 3) := by decide +kernel
theorem dX6_pass_4 : decode cX6_pass 4 = .ok (.iload_n 1, 1) := by decide +kernel
theorem dX6_pass_5 : decode cX6_pass 5 = .ok (.iadd, 1) := by decide +kernel
theorem dX6_pass_6 : decode cX6_pass 6 = .ok (.bipush 60, 2) := by decide +kernel
theorem dX6_pass_8 : decode cX6_pass 8 = .ok (.idiv, 1) := by decide +kernel
theorem dX6_pass_9 : decode cX6_pass 9 = .ok (.aload_n 0, 1) := by decide +kernel
theorem dX6_pass_10 : decode cX6_pass 10 = .ok (.getfield 69, 3) := by decide +kernel
theorem dX6_pass_13 : decode cX6_pass 13 = .ok (.bipush 60, 2) := by decide +kernel
theorem dX6_pass_15 : decode cX6_pass 15 = .ok (.idiv, 1) := by decide +kernel
theorem dX6_pass_16 : decode cX6_pass 16 = .ok (.isub, 1) := by decide +kernel
theorem dX6_pass_17 : decode cX6_pass 17 = .ok (.istore_n 2, 1) := by decide +kernel
theorem dX6_pass_18 : decode cX6_pass 18 = .ok (.aload_n 0, 1) := by decide +kernel
theorem dX6_pass_19 : decode cX6_pass 19 = .ok (.dup, 1) := by decide +kernel
theorem dX6_pass_20 : decode cX6_pass 20 = .ok (.getfield 69, 3) := by decide +kernel
theorem dX6_pass_23 : decode cX6_pass 23 = .ok (.iload_n 1, 1) := by decide +kernel
theorem dX6_pass_24 : decode cX6_pass 24 = .ok (.iadd, 1) := by decide +kernel
theorem dX6_pass_25 : decode cX6_pass 25 = .ok (.putfield 69, 3) := by decide +kernel
theorem dX6_pass_28 : decode cX6_pass 28 = .ok (.iload_n 2, 1) := by decide +kernel
theorem dX6_pass_29 : decode cX6_pass 29 = .ok (.ifCond .le 11, 3) := by decide +kernel
theorem dX6_pass_32 : decode cX6_pass 32 = .ok (.aload_n 0, 1) := by decide +kernel
theorem dX6_pass_33 : decode cX6_pass 33 = .ok (.getfield 12, 3) := by decide +kernel
theorem dX6_pass_36 : decode cX6_pass 36 = .ok (.iload_n 2, 1) := by decide +kernel
theorem dX6_pass_37 : decode cX6_pass 37 = .ok (.invokevirtual 75, 3) := by decide +kernel
theorem dX6_pass_40 : decode cX6_pass 40 = .ok (.return_, 1) := by decide +kernel
theorem dX6_gameMinute_0 : decode cX6_gameMinute 0 = .ok (.aload_n 0, 1) := by decide +kernel
theorem dX6_gameMinute_1 : decode cX6_gameMinute 1 = .ok (.getfield 69, 3) := by decide +kernel
theorem dX6_gameMinute_4 : decode cX6_gameMinute 4 = .ok (.aload_n 0, 1) := by decide +kernel
theorem dX6_gameMinute_5 : decode cX6_gameMinute 5 = .ok (.getfield 28, 3) := by decide +kernel
theorem dX6_gameMinute_8 : decode cX6_gameMinute 8 = .ok (.getfield 79, 3) := by decide +kernel
theorem dX6_gameMinute_11 : decode cX6_gameMinute 11 = .ok (.isub, 1) := by decide +kernel
theorem dX6_gameMinute_12 : decode cX6_gameMinute 12 = .ok (.ireturn, 1) := by decide +kernel
theorem dX6_minutesLeft_0 : decode cX6_minutesLeft 0 = .ok (.aload_n 0, 1) := by decide +kernel
theorem dX6_minutesLeft_1 : decode cX6_minutesLeft 1 = .ok (.getfield 28, 3) := by decide +kernel
theorem dX6_minutesLeft_4 : decode cX6_minutesLeft 4 = .ok (.getfield 79, 3) := by decide +kernel
theorem dX6_minutesLeft_7 : decode cX6_minutesLeft 7 = .ok (.aload_n 0, 1) := by decide +kernel
theorem dX6_minutesLeft_8 : decode cX6_minutesLeft 8 = .ok (.getfield 46, 3) := by decide +kernel
theorem dX6_minutesLeft_11 : decode cX6_minutesLeft 11 = .ok (.iadd, 1) := by decide +kernel
theorem dX6_minutesLeft_12 : decode cX6_minutesLeft 12 = .ok (.aload_n 0, 1) := by decide +kernel
theorem dX6_minutesLeft_13 : decode cX6_minutesLeft 13 = .ok (.getfield 69, 3) := by decide +kernel
theorem dX6_minutesLeft_16 : decode cX6_minutesLeft 16 = .ok (.isub, 1) := by decide +kernel
theorem dX6_minutesLeft_17 : decode cX6_minutesLeft 17 = .ok (.ireturn, 1) := by decide +kernel
theorem dX6_hasTimeFor_0 : decode cX6_hasTimeFor 0 = .ok (.iload_n 1, 1) := by decide +kernel
theorem dX6_hasTimeFor_1 : decode cX6_hasTimeFor 1 = .ok (.aload_n 0, 1) := by decide +kernel
theorem dX6_hasTimeFor_2 : decode cX6_hasTimeFor 2 = .ok (.invokevirtual 82, 3) := by decide +kernel
theorem dX6_hasTimeFor_5 : decode cX6_hasTimeFor 5 = .ok (.if_icmp .gt 7, 3) := by decide +kernel
theorem dX6_hasTimeFor_8 : decode cX6_hasTimeFor 8 = .ok (.iconst 1, 1) := by decide +kernel
theorem dX6_hasTimeFor_9 : decode cX6_hasTimeFor 9 = .ok (.goto 4, 3) := by decide +kernel
theorem dX6_hasTimeFor_12 : decode cX6_hasTimeFor 12 = .ok (.iconst 0, 1) := by decide +kernel
theorem dX6_hasTimeFor_13 : decode cX6_hasTimeFor 13 = .ok (.ireturn, 1) := by decide +kernel
theorem dX6_note_0 : decode cX6_note 0 = .ok (.aload_n 0, 1) := by decide +kernel
theorem dX6_note_1 : decode cX6_note 1 = .ok (.getfield 42, 3) := by decide +kernel
theorem dX6_note_4 : decode cX6_note 4 = .ok (.aload_n 0, 1) := by decide +kernel
theorem dX6_note_5 : decode cX6_note 5 = .ok (.invokevirtual 86, 3) := by decide +kernel
theorem dX6_note_8 : decode cX6_note 8 = .ok (.aload_n 1, 1) := by decide +kernel
theorem dX6_note_9 : decode cX6_note 9 = .ok (.iload_n 2, 1) := by decide +kernel
theorem dX6_note_10 : decode cX6_note 10 = .ok (.iload_n 3, 1) := by decide +kernel
theorem dX6_note_11 : decode cX6_note 11 = .ok (.invokevirtual 89, 3) := by decide +kernel
theorem dX6_note_14 : decode cX6_note 14 = .ok (.return_, 1) := by decide +kernel
theorem dX6_beginGame_0 : decode cX6_beginGame 0 = .ok (.aload_n 0, 1) := by decide +kernel
theorem dX6_beginGame_1 : decode cX6_beginGame 1 = .ok (.getfield 28, 3) := by decide +kernel
theorem dX6_beginGame_4 : decode cX6_beginGame 4 = .ok (.aload_n 0, 1) := by decide +kernel
theorem dX6_beginGame_5 : decode cX6_beginGame 5 = .ok (.getfield 21, 3) := by decide +kernel
theorem dX6_beginGame_8 : decode cX6_beginGame 8 = .ok (.getfield 93, 3) := by decide +kernel
theorem dX6_beginGame_11 : decode cX6_beginGame 11 = .ok (.iconst 0, 1) := by decide +kernel
theorem dX6_beginGame_12 : decode cX6_beginGame 12 = .ok (.invokestatic 97, 3) := by decide +kernel
theorem dX6_beginGame_15 : decode cX6_beginGame 15 = .ok (.putfield 101, 3) := by decide +kernel
theorem dX6_beginGame_18 : decode cX6_beginGame 18 = .ok (.aload_n 0, 1) := by decide +kernel
theorem dX6_beginGame_19 : decode cX6_beginGame 19 = .ok (.getfield 28, 3) := by decide +kernel
theorem dX6_beginGame_22 : decode cX6_beginGame 22 = .ok (.aload_n 0, 1) := by decide +kernel
theorem dX6_beginGame_23 : decode cX6_beginGame 23 = .ok (.getfield 21, 3) := by decide +kernel
theorem dX6_beginGame_26 : decode cX6_beginGame 26 = .ok (.getfield 103, 3) := by decide +kernel
theorem dX6_beginGame_29 : decode cX6_beginGame 29 = .ok (.iconst 0, 1) := by decide +kernel
theorem dX6_beginGame_30 : decode cX6_beginGame 30 = .ok (.invokestatic 97, 3) := by decide +kernel
theorem dX6_beginGame_33 : decode cX6_beginGame 33 = .ok (.putfield 106, 3) := by decide +kernel
theorem dX6_beginGame_36 : decode cX6_beginGame 36 = .ok (.aload_n 0, 1) := by decide +kernel
theorem dX6_beginGame_37 : decode cX6_beginGame 37 = .ok (.getfield 21, 3) := by decide +kernel
theorem dX6_beginGame_40 : decode cX6_beginGame 40 = .ok (.iconst 0, 1) := by decide +kernel
theorem dX6_beginGame_41 : decode cX6_beginGame 41 = .ok (.invokevirtual 109, 3) := by decide +kernel
theorem dX6_beginGame_44 : decode cX6_beginGame 44 = .ok (.aload_n 0, 1) := by decide +kernel
theorem dX6_beginGame_45 : decode cX6_beginGame 45 = .ok (.getfield 28, 3) := by decide +kernel
theorem dX6_beginGame_48 : decode cX6_beginGame 48 = .ok (.aload_n 0, 1) := by decide +kernel
theorem dX6_beginGame_49 : decode cX6_beginGame 49 = .ok (.getfield 69, 3) := by decide +kernel
theorem dX6_beginGame_52 : decode cX6_beginGame 52 = .ok (.aload_n 0, 1) := by decide +kernel
theorem dX6_beginGame_53 : decode cX6_beginGame 53 = .ok (.getfield 28, 3) := by decide +kernel
theorem dX6_beginGame_56 : decode cX6_beginGame 56 = .ok (.getfield 106, 3) := by decide +kernel
theorem dX6_beginGame_59 : decode cX6_beginGame 59 = .ok (.invokestatic 112, 3) := by decide +kernel
theorem dX6_beginGame_62 : decode cX6_beginGame 62 = .ok (.putfield 79, 3) := by decide +kernel
theorem dX6_beginGame_65 : decode cX6_beginGame 65 = .ok (.aload_n 0, 1) := by decide +kernel
theorem dX6_beginGame_66 : decode cX6_beginGame 66 = .ok (.aload_n 0, 1) := by decide +kernel
theorem dX6_beginGame_67 : decode cX6_beginGame 67 = .ok (.getfield 28, 3) := by decide +kernel
theorem dX6_beginGame_70 : decode cX6_beginGame 70 = .ok (.getfield 79, 3) := by decide +kernel
theorem dX6_beginGame_73 : decode cX6_beginGame 73 = .ok (.aload_n 0, 1) := by decide +kernel
theorem dX6_beginGame_74 : decode cX6_beginGame 74 = .ok (.getfield 69, 3) := by decide +kernel
theorem dX6_beginGame_77 : decode cX6_beginGame 77 = .ok (.isub, 1) := by decide +kernel
theorem dX6_beginGame_78 : decode cX6_beginGame 78 = .ok (.invokevirtual 118, 3) := by decide +kernel
theorem dX6_beginGame_81 : decode cX6_beginGame 81 = .ok (.aload_n 0, 1) := by decide +kernel
theorem dX6_beginGame_82 : decode cX6_beginGame 82 = .ok (.getfield 28, 3) := by decide +kernel
theorem dX6_beginGame_85 : decode cX6_beginGame 85 = .ok (.iconst 0, 1) := by decide +kernel
theorem dX6_beginGame_86 : decode cX6_beginGame 86 = .ok (.putfield 121, 3) := by decide +kernel
theorem dX6_beginGame_89 : decode cX6_beginGame 89 = .ok (.aload_n 0, 1) := by decide +kernel
theorem dX6_beginGame_90 : decode cX6_beginGame 90 = .ok (.getfield 28, 3) := by decide +kernel
theorem dX6_beginGame_93 : decode cX6_beginGame 93 = .ok (.iconst 0, 1) := by decide +kernel
theorem dX6_beginGame_94 : decode cX6_beginGame 94 = .ok (.putfield 124, 3) := by decide +kernel
theorem dX6_beginGame_97 : decode cX6_beginGame 97 = .ok (.aload_n 0, 1) := by decide +kernel
theorem dX6_beginGame_98 : decode cX6_beginGame 98 = .ok (.getfield 28, 3) := by decide +kernel
theorem dX6_beginGame_101 : decode cX6_beginGame 101 = .ok (.aload_n 0, 1) := by decide +kernel
theorem dX6_beginGame_102 : decode cX6_beginGame 102 = .ok (.getfield 12, 3) := by decide +kernel
theorem dX6_beginGame_105 : decode cX6_beginGame 105 = .ok (.invokevirtual 127, 3) := by decide +kernel
theorem dX6_beginGame_108 : decode cX6_beginGame 108 = .ok (.aload_n 0, 1) := by decide +kernel
theorem dX6_beginGame_109 : decode cX6_beginGame 109 = .ok (.getfield 12, 3) := by decide +kernel
theorem dX6_beginGame_112 : decode cX6_beginGame 112 = .ok (.invokevirtual 130, 3) := by decide +kernel
theorem dX6_beginGame_115 : decode cX6_beginGame 115 = .ok (.iadd, 1) := by decide +kernel
theorem dX6_beginGame_116 : decode cX6_beginGame 116 = .ok (.putfield 133, 3) := by decide +kernel
theorem dX6_beginGame_119 : decode cX6_beginGame 119 = .ok (.aload_n 0, 1) := by decide +kernel
theorem dX6_beginGame_120 : decode cX6_beginGame 120 = .ok (.getfield 28, 3) := by decide +kernel
theorem dX6_beginGame_123 : decode cX6_beginGame 123 = .ok (.iconst 1, 1) := by decide +kernel
theorem dX6_beginGame_124 : decode cX6_beginGame 124 = .ok (.putfield 136, 3) := by decide +kernel
theorem dX6_beginGame_127 : decode cX6_beginGame 127 = .ok (.aload_n 0, 1) := by decide +kernel
theorem dX6_beginGame_128 : decode cX6_beginGame 128 = .ok (.getfield 12, 3) := by decide +kernel
theorem dX6_beginGame_131 : decode cX6_beginGame 131 = .ok (.aload_n 0, 1) := by decide +kernel
theorem dX6_beginGame_132 : decode cX6_beginGame 132 = .ok (.getfield 28, 3) := by decide +kernel
theorem dX6_beginGame_135 : decode cX6_beginGame 135 = .ok (.getfield 101, 3) := by decide +kernel
theorem dX6_beginGame_138 : decode cX6_beginGame 138 = .ok (.putfield 140, 3) := by decide +kernel
theorem dX6_beginGame_141 : decode cX6_beginGame 141 = .ok (.aload_n 0, 1) := by decide +kernel
theorem dX6_beginGame_142 : decode cX6_beginGame 142 = .ok (.getfield 42, 3) := by decide +kernel
theorem dX6_beginGame_145 : decode cX6_beginGame 145 = .ok (.iconst 0, 1) := by decide +kernel
theorem dX6_beginGame_146 : decode cX6_beginGame 146 = .ok (.putfield 143, 3) := by decide +kernel
theorem dX6_beginGame_149 : decode cX6_beginGame 149 = .ok (.aload_n 0, 1) := by decide +kernel
theorem dX6_beginGame_150 : decode cX6_beginGame 150 = .ok (.getfield 28, 3) := by decide +kernel
theorem dX6_beginGame_153 : decode cX6_beginGame 153 = .ok (.getfield 79, 3) := by decide +kernel
theorem dX6_beginGame_156 : decode cX6_beginGame 156 = .ok (.aload_n 0, 1) := by decide +kernel
theorem dX6_beginGame_157 : decode cX6_beginGame 157 = .ok (.getfield 28, 3) := by decide +kernel
theorem dX6_beginGame_160 : decode cX6_beginGame 160 = .ok (.getfield 106, 3) := by decide +kernel
theorem dX6_beginGame_163 : decode cX6_beginGame 163 = .ok (.isub, 1) := by decide +kernel
theorem dX6_beginGame_164 : decode cX6_beginGame 164 = .ok (.ireturn, 1) := by decide +kernel
theorem dX6_endGame_0 : decode cX6_endGame 0 = .ok (.aload_n 0, 1) := by decide +kernel
theorem dX6_endGame_1 : decode cX6_endGame 1 = .ok (.getfield 35, 3) := by decide +kernel
theorem dX6_endGame_4 : decode cX6_endGame 4 = .ok (.aload_n 0, 1) := by decide +kernel
theorem dX6_endGame_5 : decode cX6_endGame 5 = .ok (.getfield 28, 3) := by decide +kernel
theorem dX6_endGame_8 : decode cX6_endGame 8 = .ok (.aload_n 0, 1) := by decide +kernel
theorem dX6_endGame_9 : decode cX6_endGame 9 = .ok (.invokevirtual 86, 3) := by decide +kernel
theorem dX6_endGame_12 : decode cX6_endGame 12 = .ok (.iload_n 1, 1) := by decide +kernel
theorem dX6_endGame_13 : decode cX6_endGame 13 = .ok (.invokestatic 146, 3) := by decide +kernel
theorem dX6_endGame_16 : decode cX6_endGame 16 = .ok (.invokevirtual 150, 3) := by decide +kernel
theorem dX6_endGame_19 : decode cX6_endGame 19 = .ok (.aload_n 0, 1) := by decide +kernel
theorem dX6_endGame_20 : decode cX6_endGame 20 = .ok (.getfield 28, 3) := by decide +kernel
theorem dX6_endGame_23 : decode cX6_endGame 23 = .ok (.iconst 0, 1) := by decide +kernel
theorem dX6_endGame_24 : decode cX6_endGame 24 = .ok (.putfield 136, 3) := by decide +kernel
theorem dX6_endGame_27 : decode cX6_endGame 27 = .ok (.aload_n 0, 1) := by decide +kernel
theorem dX6_endGame_28 : decode cX6_endGame 28 = .ok (.getfield 12, 3) := by decide +kernel
theorem dX6_endGame_31 : decode cX6_endGame 31 = .ok (.invokevirtual 153, 3) := by decide +kernel
theorem dX6_endGame_34 : decode cX6_endGame 34 = .ok (.aload_n 0, 1) := by decide +kernel
theorem dX6_endGame_35 : decode cX6_endGame 35 = .ok (.getfield 12, 3) := by decide +kernel
theorem dX6_endGame_38 : decode cX6_endGame 38 = .ok (.invokevirtual 156, 3) := by decide +kernel
theorem dX6_endGame_41 : decode cX6_endGame 41 = .ok (.return_, 1) := by decide +kernel
theorem dX6_runOutOfTime_0 : decode cX6_runOutOfTime 0 = .ok (.aload_n 0, 1) := by decide +kernel
theorem dX6_runOutOfTime_1 : decode cX6_runOutOfTime 1 = .ok (.getfield 42, 3) := by decide +kernel
theorem dX6_runOutOfTime_4 : decode cX6_runOutOfTime 4 = .ok (.aload_n 0, 1) := by decide +kernel
theorem dX6_runOutOfTime_5 : decode cX6_runOutOfTime 5 = .ok (.invokevirtual 86, 3) := by decide +kernel
theorem dX6_runOutOfTime_8 : decode cX6_runOutOfTime 8 = .ok (.ldc 159, 2) := by decide +kernel
theorem dX6_runOutOfTime_10 : decode cX6_runOutOfTime 10 = .ok (.iconst (-1), 1) := by decide +kernel
theorem dX6_runOutOfTime_11 : decode cX6_runOutOfTime 11 = .ok (.iconst (-1), 1) := by decide +kernel
theorem dX6_runOutOfTime_12 : decode cX6_runOutOfTime 12 = .ok (.invokevirtual 89, 3) := by decide +kernel
theorem dX6_runOutOfTime_15 : decode cX6_runOutOfTime 15 = .ok (.aload_n 0, 1) := by decide +kernel
theorem dX6_runOutOfTime_16 : decode cX6_runOutOfTime 16 = .ok (.aload_n 0, 1) := by decide +kernel
theorem dX6_runOutOfTime_17 : decode cX6_runOutOfTime 17 = .ok (.invokevirtual 82, 3) := by decide +kernel
theorem dX6_runOutOfTime_20 : decode cX6_runOutOfTime 20 = .ok (.invokevirtual 118, 3) := by decide +kernel
theorem dX6_runOutOfTime_23 : decode cX6_runOutOfTime 23 = .ok (.aload_n 0, 1) := by decide +kernel
theorem dX6_runOutOfTime_24 : decode cX6_runOutOfTime 24 = .ok (.iconst 0, 1) := by decide +kernel
theorem dX6_runOutOfTime_25 : decode cX6_runOutOfTime 25 = .ok (.invokevirtual 161, 3) := by decide +kernel
theorem dX6_runOutOfTime_28 : decode cX6_runOutOfTime 28 = .ok (.bipush (-6), 2) := by decide +kernel
theorem dX6_runOutOfTime_30 : decode cX6_runOutOfTime 30 = .ok (.ireturn, 1) := by decide +kernel
theorem dX6_latestStart_0 : decode cX6_latestStart 0 = .ok (.aload_n 0, 1) := by decide +kernel
theorem dX6_latestStart_1 : decode cX6_latestStart 1 = .ok (.getfield 28, 3) := by decide +kernel
theorem dX6_latestStart_4 : decode cX6_latestStart 4 = .ok (.getfield 136, 3) := by decide +kernel
theorem dX6_latestStart_7 : decode cX6_latestStart 7 = .ok (.ifCond .eq 21, 3) := by decide +kernel
theorem dX6_latestStart_10 : decode cX6_latestStart 10 = .ok (.aload_n 0, 1) := by decide +kernel
theorem dX6_latestStart_11 : decode cX6_latestStart 11 = .ok (.getfield 28, 3) := by decide +kernel
theorem dX6_latestStart_14 : decode cX6_latestStart 14 = .ok (.getfield 79, 3) := by decide +kernel
theorem dX6_latestStart_17 : decode cX6_latestStart 17 = .ok (.aload_n 0, 1) := by decide +kernel
theorem dX6_latestStart_18 : decode cX6_latestStart 18 = .ok (.getfield 46, 3) := by decide +kernel
theorem dX6_latestStart_21 : decode cX6_latestStart 21 = .ok (.iadd, 1) := by decide +kernel
theorem dX6_latestStart_22 : decode cX6_latestStart 22 = .ok (.bipush 10, 2) := by decide +kernel
theorem dX6_latestStart_24 : decode cX6_latestStart 24 = .ok (.iadd, 1) := by decide +kernel
theorem dX6_latestStart_25 : decode cX6_latestStart 25 = .ok (.goto 7, 3) := by decide +kernel
theorem dX6_latestStart_28 : decode cX6_latestStart 28 = .ok (.aload_n 0, 1) := by decide +kernel
theorem dX6_latestStart_29 : decode cX6_latestStart 29 = .ok (.getfield 69, 3) := by decide +kernel
theorem dX6_latestStart_32 : decode cX6_latestStart 32 = .ok (.istore_n 2, 1) := by decide +kernel
theorem dX6_latestStart_33 : decode cX6_latestStart 33 = .ok (.iconst 0, 1) := by decide +kernel
theorem dX6_latestStart_34 : decode cX6_latestStart 34 = .ok (.istore_n 3, 1) := by decide +kernel
theorem dX6_latestStart_35 : decode cX6_latestStart 35 = .ok (.iload_n 3, 1) := by decide +kernel
theorem dX6_latestStart_36 : decode cX6_latestStart 36 = .ok (.iload_n 1, 1) := by decide +kernel
theorem dX6_latestStart_37 : decode cX6_latestStart 37 = .ok (.if_icmp .ge 33, 3) := by decide +kernel
theorem dX6_latestStart_40 : decode cX6_latestStart 40 = .ok (.iload_n 2, 1) := by decide +kernel
theorem dX6_latestStart_41 : decode cX6_latestStart 41 = .ok (.aload_n 0, 1) := by decide +kernel
theorem dX6_latestStart_42 : decode cX6_latestStart 42 = .ok (.getfield 21, 3) := by decide +kernel
theorem dX6_latestStart_45 : decode cX6_latestStart 45 = .ok (.getfield 103, 3) := by decide +kernel
theorem dX6_latestStart_48 : decode cX6_latestStart 48 = .ok (.iload_n 3, 1) := by decide +kernel
theorem dX6_latestStart_49 : decode cX6_latestStart 49 = .ok (.invokestatic 97, 3) := by decide +kernel
theorem dX6_latestStart_52 : decode cX6_latestStart 52 = .ok (.invokestatic 112, 3) := by decide +kernel
theorem dX6_latestStart_55 : decode cX6_latestStart 55 = .ok (.aload_n 0, 1) := by decide +kernel
theorem dX6_latestStart_56 : decode cX6_latestStart 56 = .ok (.getfield 46, 3) := by decide +kernel
theorem dX6_latestStart_59 : decode cX6_latestStart 59 = .ok (.iadd, 1) := by decide +kernel
theorem dX6_latestStart_60 : decode cX6_latestStart 60 = .ok (.bipush 10, 2) := by decide +kernel
theorem dX6_latestStart_62 : decode cX6_latestStart 62 = .ok (.iadd, 1) := by decide +kernel
theorem dX6_latestStart_63 : decode cX6_latestStart 63 = .ok (.istore_n 2, 1) := by decide +kernel
theorem dX6_latestStart_64 : decode cX6_latestStart 64 = .ok (.iinc 3 1, 3) := by decide +kernel
theorem dX6_latestStart_67 : decode cX6_latestStart 67 = .ok (.goto (-32), 3) := by decide +kernel
theorem dX6_latestStart_70 : decode cX6_latestStart 70 = .ok (.iload_n 2, 1) := by decide +kernel
theorem dX6_latestStart_71 : decode cX6_latestStart 71 = .ok (.aload_n 0, 1) := by decide +kernel
theorem dX6_latestStart_72 : decode cX6_latestStart 72 = .ok (.getfield 21, 3) := by decide +kernel
theorem dX6_latestStart_75 : decode cX6_latestStart 75 = .ok (.getfield 103, 3) := by decide +kernel
theorem dX6_latestStart_78 : decode cX6_latestStart 78 = .ok (.iload_n 1, 1) := by decide +kernel
theorem dX6_latestStart_79 : decode cX6_latestStart 79 = .ok (.invokestatic 97, 3) := by decide +kernel
theorem dX6_latestStart_82 : decode cX6_latestStart 82 = .ok (.invokestatic 112, 3) := by decide +kernel
theorem dX6_latestStart_85 : decode cX6_latestStart 85 = .ok (.ireturn, 1) := by decide +kernel
theorem dX6_refill_0 : decode cX6_refill 0 = .ok (.aload_n 0, 1) := by decide +kernel
theorem dX6_refill_1 : decode cX6_refill 1 = .ok (.dup, 1) := by decide +kernel
theorem dX6_refill_2 : decode cX6_refill 2 = .ok (.getfield 72, 3) := by decide +kernel
theorem dX6_refill_5 : decode cX6_refill 5 = .ok (.aload_n 0, 1) := by decide +kernel
theorem dX6_refill_6 : decode cX6_refill 6 = .ok (.getfield 12, 3) := by decide +kernel
theorem dX6_refill_9 : decode cX6_refill 9 = .ok (.iload_n 1, 1) := by decide +kernel
theorem dX6_refill_10 : decode cX6_refill 10 = .ok (.invokevirtual 165, 3) := by decide +kernel
theorem dX6_refill_13 : decode cX6_refill 13 = .ok (.isub, 1) := by decide +kernel
theorem dX6_refill_14 : decode cX6_refill 14 = .ok (.putfield 72, 3) := by decide +kernel
theorem dX6_refill_17 : decode cX6_refill 17 = .ok (.aload_n 0, 1) := by decide +kernel
theorem dX6_refill_18 : decode cX6_refill 18 = .ok (.getfield 12, 3) := by decide +kernel
theorem dX6_refill_21 : decode cX6_refill 21 = .ok (.getfield 169, 3) := by decide +kernel
theorem dX6_refill_24 : decode cX6_refill 24 = .ok (.iload_n 1, 1) := by decide +kernel
theorem dX6_refill_25 : decode cX6_refill 25 = .ok (.bipush 9, 2) := by decide +kernel
theorem dX6_refill_27 : decode cX6_refill 27 = .ok (.invokestatic 172, 3) := by decide +kernel
theorem dX6_refill_30 : decode cX6_refill 30 = .ok (.return_, 1) := by decide +kernel
theorem dX6_cluesOfReset_0 : decode cX6_cluesOfReset 0 = .ok (.iconst 0, 1) := by decide +kernel
theorem dX6_cluesOfReset_1 : decode cX6_cluesOfReset 1 = .ok (.istore_n 1, 1) := by decide +kernel
theorem dX6_cluesOfReset_2 : decode cX6_cluesOfReset 2 = .ok (.aload_n 0, 1) := by decide +kernel
theorem dX6_cluesOfReset_3 : decode cX6_cluesOfReset 3 = .ok (.getfield 72, 3) := by decide +kernel
theorem dX6_cluesOfReset_6 : decode cX6_cluesOfReset 6 = .ok (.istore_n 2, 1) := by decide +kernel
theorem dX6_cluesOfReset_7 : decode cX6_cluesOfReset 7 = .ok (.iconst 0, 1) := by decide +kernel
theorem dX6_cluesOfReset_8 : decode cX6_cluesOfReset 8 = .ok (.istore_n 3, 1) := by decide +kernel
theorem dX6_cluesOfReset_9 : decode cX6_cluesOfReset 9 = .ok (.iload_n 3, 1) := by decide +kernel
theorem dX6_cluesOfReset_10 : decode cX6_cluesOfReset 10 = .ok (.aload_n 0, 1) := by decide +kernel
theorem dX6_cluesOfReset_11 : decode cX6_cluesOfReset 11 = .ok (.getfield 12, 3) := by decide +kernel
theorem dX6_cluesOfReset_14 : decode cX6_cluesOfReset 14 = .ok (.getfield 176, 3) := by decide +kernel
theorem dX6_cluesOfReset_17 : decode cX6_cluesOfReset 17 = .ok (.if_icmp .ge 49, 3) := by decide +kernel
theorem dX6_cluesOfReset_20 : decode cX6_cluesOfReset 20 = .ok (.aload_n 0, 1) := by decide +kernel
theorem dX6_cluesOfReset_21 : decode cX6_cluesOfReset 21 = .ok (.getfield 12, 3) := by decide +kernel
theorem dX6_cluesOfReset_24 : decode cX6_cluesOfReset 24 = .ok (.iload_n 3, 1) := by decide +kernel
theorem dX6_cluesOfReset_25 : decode cX6_cluesOfReset 25 = .ok (.invokevirtual 179, 3) := by decide +kernel
theorem dX6_cluesOfReset_28 : decode cX6_cluesOfReset 28 = .ok (.ifCond .eq 32, 3) := by decide +kernel
theorem dX6_cluesOfReset_31 : decode cX6_cluesOfReset 31 = .ok (.aload_n 0, 1) := by decide +kernel
theorem dX6_cluesOfReset_32 : decode cX6_cluesOfReset 32 = .ok (.getfield 12, 3) := by decide +kernel
theorem dX6_cluesOfReset_35 : decode cX6_cluesOfReset 35 = .ok (.iload_n 3, 1) := by decide +kernel
theorem dX6_cluesOfReset_36 : decode cX6_cluesOfReset 36 = .ok (.invokevirtual 165, 3) := by decide +kernel
theorem dX6_cluesOfReset_39 : decode cX6_cluesOfReset 39 = .ok (.iload_n 2, 1) := by decide +kernel
theorem dX6_cluesOfReset_40 : decode cX6_cluesOfReset 40 = .ok (.if_icmp .gt 20, 3) := by decide +kernel
theorem dX6_cluesOfReset_43 : decode cX6_cluesOfReset 43 = .ok (.iload_n 2, 1) := by decide +kernel
theorem dX6_cluesOfReset_44 : decode cX6_cluesOfReset 44 = .ok (.aload_n 0, 1) := by decide +kernel
theorem dX6_cluesOfReset_45 : decode cX6_cluesOfReset 45 = .ok (.getfield 12, 3) := by decide +kernel
theorem dX6_cluesOfReset_48 : decode cX6_cluesOfReset 48 = .ok (.iload_n 3, 1) := by decide +kernel
theorem dX6_cluesOfReset_49 : decode cX6_cluesOfReset 49 = .ok (.invokevirtual 165, 3) := by decide +kernel
theorem dX6_cluesOfReset_52 : decode cX6_cluesOfReset 52 = .ok (.isub, 1) := by decide +kernel
theorem dX6_cluesOfReset_53 : decode cX6_cluesOfReset 53 = .ok (.istore_n 2, 1) := by decide +kernel
theorem dX6_cluesOfReset_54 : decode cX6_cluesOfReset 54 = .ok (.iload_n 1, 1) := by decide +kernel
theorem dX6_cluesOfReset_55 : decode cX6_cluesOfReset 55 = .ok (.iconst 1, 1) := by decide +kernel
theorem dX6_cluesOfReset_56 : decode cX6_cluesOfReset 56 = .ok (.iload_n 3, 1) := by decide +kernel
theorem dX6_cluesOfReset_57 : decode cX6_cluesOfReset 57 = .ok (.ishl, 1) := by decide +kernel
theorem dX6_cluesOfReset_58 : decode cX6_cluesOfReset 58 = .ok (.ior, 1) := by decide +kernel
theorem dX6_cluesOfReset_59 : decode cX6_cluesOfReset 59 = .ok (.istore_n 1, 1) := by decide +kernel
theorem dX6_cluesOfReset_60 : decode cX6_cluesOfReset 60 = .ok (.iinc 3 1, 3) := by decide +kernel
theorem dX6_cluesOfReset_63 : decode cX6_cluesOfReset 63 = .ok (.goto (-54), 3) := by decide +kernel
theorem dX6_cluesOfReset_66 : decode cX6_cluesOfReset 66 = .ok (.iload_n 1, 1) := by decide +kernel
theorem dX6_cluesOfReset_67 : decode cX6_cluesOfReset 67 = .ok (.ireturn, 1) := by decide +kernel
theorem dX6_resetMinutes_0 : decode cX6_resetMinutes 0 = .ok (.aload_n 0, 1) := by decide +kernel
theorem dX6_resetMinutes_1 : decode cX6_resetMinutes 1 = .ok (.getfield 12, 3) := by decide +kernel
theorem dX6_resetMinutes_4 : decode cX6_resetMinutes 4 = .ok (.invokevirtual 127, 3) := by decide +kernel
theorem dX6_resetMinutes_7 : decode cX6_resetMinutes 7 = .ok (.aload_n 0, 1) := by decide +kernel
theorem dX6_resetMinutes_8 : decode cX6_resetMinutes 8 = .ok (.getfield 12, 3) := by decide +kernel
theorem dX6_resetMinutes_11 : decode cX6_resetMinutes 11 = .ok (.invokevirtual 130, 3) := by decide +kernel
theorem dX6_resetMinutes_14 : decode cX6_resetMinutes 14 = .ok (.iadd, 1) := by decide +kernel
theorem dX6_resetMinutes_15 : decode cX6_resetMinutes 15 = .ok (.aload_n 0, 1) := by decide +kernel
theorem dX6_resetMinutes_16 : decode cX6_resetMinutes 16 = .ok (.invokevirtual 183, 3) := by decide +kernel
theorem dX6_resetMinutes_19 : decode cX6_resetMinutes 19 = .ok (.invokestatic 186, 3) := by decide +kernel
theorem dX6_resetMinutes_22 : decode cX6_resetMinutes 22 = .ok (.iadd, 1) := by decide +kernel
theorem dX6_resetMinutes_23 : decode cX6_resetMinutes 23 = .ok (.ireturn, 1) := by decide +kernel
theorem dX6_resetPaint_0 : decode cX6_resetPaint 0 = .ok (.aload_n 0, 1) := by decide +kernel
theorem dX6_resetPaint_1 : decode cX6_resetPaint 1 = .ok (.invokevirtual 183, 3) := by decide +kernel
theorem dX6_resetPaint_4 : decode cX6_resetPaint 4 = .ok (.istore_n 1, 1) := by decide +kernel
theorem dX6_resetPaint_5 : decode cX6_resetPaint 5 = .ok (.iconst 0, 1) := by decide +kernel
theorem dX6_resetPaint_6 : decode cX6_resetPaint 6 = .ok (.istore_n 2, 1) := by decide +kernel
theorem dX6_resetPaint_7 : decode cX6_resetPaint 7 = .ok (.iconst 0, 1) := by decide +kernel
theorem dX6_resetPaint_8 : decode cX6_resetPaint 8 = .ok (.istore_n 3, 1) := by decide +kernel
theorem dX6_resetPaint_9 : decode cX6_resetPaint 9 = .ok (.iload_n 3, 1) := by decide +kernel
theorem dX6_resetPaint_10 : decode cX6_resetPaint 10 = .ok (.aload_n 0, 1) := by decide +kernel
theorem dX6_resetPaint_11 : decode cX6_resetPaint 11 = .ok (.getfield 12, 3) := by decide +kernel
theorem dX6_resetPaint_14 : decode cX6_resetPaint 14 = .ok (.getfield 176, 3) := by decide +kernel
theorem dX6_resetPaint_17 : decode cX6_resetPaint 17 = .ok (.if_icmp .ge 26, 3) := by decide +kernel
theorem dX6_resetPaint_20 : decode cX6_resetPaint 20 = .ok (.iload_n 2, 1) := by decide +kernel
theorem dX6_resetPaint_21 : decode cX6_resetPaint 21 = .ok (.iload_n 1, 1) := by decide +kernel
theorem dX6_resetPaint_22 : decode cX6_resetPaint 22 = .ok (.iload_n 3, 1) := by decide +kernel
theorem dX6_resetPaint_23 : decode cX6_resetPaint 23 = .ok (.ishr, 1) := by decide +kernel
theorem dX6_resetPaint_24 : decode cX6_resetPaint 24 = .ok (.iconst 1, 1) := by decide +kernel
theorem dX6_resetPaint_25 : decode cX6_resetPaint 25 = .ok (.iand, 1) := by decide +kernel
theorem dX6_resetPaint_26 : decode cX6_resetPaint 26 = .ok (.aload_n 0, 1) := by decide +kernel
theorem dX6_resetPaint_27 : decode cX6_resetPaint 27 = .ok (.getfield 12, 3) := by decide +kernel
theorem dX6_resetPaint_30 : decode cX6_resetPaint 30 = .ok (.iload_n 3, 1) := by decide +kernel
theorem dX6_resetPaint_31 : decode cX6_resetPaint 31 = .ok (.invokevirtual 165, 3) := by decide +kernel
theorem dX6_resetPaint_34 : decode cX6_resetPaint 34 = .ok (.imul, 1) := by decide +kernel
theorem dX6_resetPaint_35 : decode cX6_resetPaint 35 = .ok (.iadd, 1) := by decide +kernel
theorem dX6_resetPaint_36 : decode cX6_resetPaint 36 = .ok (.istore_n 2, 1) := by decide +kernel
theorem dX6_resetPaint_37 : decode cX6_resetPaint 37 = .ok (.iinc 3 1, 3) := by decide +kernel
theorem dX6_resetPaint_40 : decode cX6_resetPaint 40 = .ok (.goto (-31), 3) := by decide +kernel
theorem dX6_resetPaint_43 : decode cX6_resetPaint 43 = .ok (.iload_n 2, 1) := by decide +kernel
theorem dX6_resetPaint_44 : decode cX6_resetPaint 44 = .ok (.ireturn, 1) := by decide +kernel
theorem dX6_bringToOrder_0 : decode cX6_bringToOrder 0 = .ok (.aload_n 0, 1) := by decide +kernel
theorem dX6_bringToOrder_1 : decode cX6_bringToOrder 1 = .ok (.invokevirtual 183, 3) := by decide +kernel
theorem dX6_bringToOrder_4 : decode cX6_bringToOrder 4 = .ok (.istore_n 1, 1) := by decide +kernel
theorem dX6_bringToOrder_5 : decode cX6_bringToOrder 5 = .ok (.aload_n 0, 1) := by decide +kernel
theorem dX6_bringToOrder_6 : decode cX6_bringToOrder 6 = .ok (.getfield 12, 3) := by decide +kernel
theorem dX6_bringToOrder_9 : decode cX6_bringToOrder 9 = .ok (.invokevirtual 191, 3) := by decide +kernel
theorem dX6_bringToOrder_12 : decode cX6_bringToOrder 12 = .ok (.aload_n 0, 1) := by decide +kernel
theorem dX6_bringToOrder_13 : decode cX6_bringToOrder 13 = .ok (.getfield 12, 3) := by decide +kernel
theorem dX6_bringToOrder_16 : decode cX6_bringToOrder 16 = .ok (.invokevirtual 194, 3) := by decide +kernel
theorem dX6_bringToOrder_19 : decode cX6_bringToOrder 19 = .ok (.iconst 0, 1) := by decide +kernel
theorem dX6_bringToOrder_20 : decode cX6_bringToOrder 20 = .ok (.istore_n 2, 1) := by decide +kernel
theorem dX6_bringToOrder_21 : decode cX6_bringToOrder 21 = .ok (.iload_n 2, 1) := by decide +kernel
theorem dX6_bringToOrder_22 : decode cX6_bringToOrder 22 = .ok (.aload_n 0, 1) := by decide +kernel
theorem dX6_bringToOrder_23 : decode cX6_bringToOrder 23 = .ok (.getfield 12, 3) := by decide +kernel
theorem dX6_bringToOrder_26 : decode cX6_bringToOrder 26 = .ok (.getfield 176, 3) := by decide +kernel
theorem dX6_bringToOrder_29 : decode cX6_bringToOrder 29 = .ok (.if_icmp .ge 23, 3) := by decide +kernel
theorem dX6_bringToOrder_32 : decode cX6_bringToOrder 32 = .ok (.iload_n 1, 1) := by decide +kernel
theorem dX6_bringToOrder_33 : decode cX6_bringToOrder 33 = .ok (.iload_n 2, 1) := by decide +kernel
theorem dX6_bringToOrder_34 : decode cX6_bringToOrder 34 = .ok (.ishr, 1) := by decide +kernel
theorem dX6_bringToOrder_35 : decode cX6_bringToOrder 35 = .ok (.iconst 1, 1) := by decide +kernel
theorem dX6_bringToOrder_36 : decode cX6_bringToOrder 36 = .ok (.iand, 1) := by decide +kernel
theorem dX6_bringToOrder_37 : decode cX6_bringToOrder 37 = .ok (.iconst 1, 1) := by decide +kernel
theorem dX6_bringToOrder_38 : decode cX6_bringToOrder 38 = .ok (.if_icmp .ne 8, 3) := by decide +kernel
theorem dX6_bringToOrder_41 : decode cX6_bringToOrder 41 = .ok (.aload_n 0, 1) := by decide +kernel
theorem dX6_bringToOrder_42 : decode cX6_bringToOrder 42 = .ok (.iload_n 2, 1) := by decide +kernel
theorem dX6_bringToOrder_43 : decode cX6_bringToOrder 43 = .ok (.invokevirtual 197, 3) := by decide +kernel
theorem dX6_bringToOrder_46 : decode cX6_bringToOrder 46 = .ok (.iinc 2 1, 3) := by decide +kernel
theorem dX6_bringToOrder_49 : decode cX6_bringToOrder 49 = .ok (.goto (-28), 3) := by decide +kernel
theorem dX6_bringToOrder_52 : decode cX6_bringToOrder 52 = .ok (.return_, 1) := by decide +kernel
end
section
theorem dX7_init_0 : decode cX7_init 0 = .ok (.aload_n 0, 1) := by decide +kernel
theorem dX7_init_1 : decode cX7_init 1 = .ok (.invokespecial 1, 3) := by decide +kernel
theorem dX7_init_4 : decode cX7_init 4 = .ok (.aload_n 0, 1) := by decide +kernel
theorem dX7_init_5 : decode cX7_init 5 = .ok (.new 7, 3) := by decide +kernel
theorem dX7_init_8 : decode cX7_init 8 = .ok (.dup, 1) := by decide +kernel
theorem dX7_init_9 : decode cX7_init 9 = .ok (.invokespecial 9, 3) := by decide +kernel
theorem dX7_init_12 : decode cX7_init 12 = .ok (.putfield 10, 3) := by decide +kernel
theorem dX7_init_15 : decode cX7_init 15 = .ok (.aload_n 0, 1) := by decide +kernel
theorem dX7_init_16 : decode cX7_init 16 = .ok (.new 16, 3) := by decide +kernel
theorem dX7_init_19 : decode cX7_init 19 = .ok (.dup, 1) := by decide +kernel
theorem dX7_init_20 : decode cX7_init 20 = .ok (.invokespecial 18, 3) := by decide +kernel
theorem dX7_init_23 : decode cX7_init 23 = .ok (.putfield 19, 3) := by decide +kernel
theorem dX7_init_26 : decode cX7_init 26 = .ok (.aload_n 0, 1) := by decide +kernel
theorem dX7_init_27 : decode cX7_init 27 = .ok (.new 16, 3) := by decide +kernel
theorem dX7_init_30 : decode cX7_init 30 = .ok (.dup, 1) := by decide +kernel
theorem dX7_init_31 : decode cX7_init 31 = .ok (.invokespecial 18, 3) := by decide +kernel
theorem dX7_init_34 : decode cX7_init 34 = .ok (.putfield 23, 3) := by decide +kernel
theorem dX7_init_37 : decode cX7_init 37 = .ok (.aload_n 0, 1) := by decide +kernel
theorem dX7_init_38 : decode cX7_init 38 = .ok (.new 16, 3) := by decide +kernel
theorem dX7_init_41 : decode cX7_init 41 = .ok (.dup, 1) := by decide +kernel
theorem dX7_init_42 : decode cX7_init 42 = .ok (.invokespecial 18, 3) := by decide +kernel
theorem dX7_init_45 : decode cX7_init 45 = .ok (.putfield 26, 3) := by decide +kernel
theorem dX7_init_48 : decode cX7_init 48 = .ok (.aload_n 0, 1) := by decide +kernel
theorem dX7_init_49 : decode cX7_init 49 = .ok (.new 29, 3) := by decide +kernel
theorem dX7_init_52 : decode cX7_init 52 = .ok (.dup, 1) := by decide +kernel
theorem dX7_init_53 : decode cX7_init 53 = .ok (.invokespecial 31, 3) := by decide +kernel
theorem dX7_init_56 : decode cX7_init 56 = .ok (.putfield 32, 3) := by decide +kernel
theorem dX7_init_59 : decode cX7_init 59 = .ok (.aload_n 0, 1) := by decide +kernel
theorem dX7_init_60 : decode cX7_init 60 = .ok (.iconst 0, 1) := by decide +kernel
theorem dX7_init_61 : decode cX7_init 61 = .ok (.putfield 36, 3) := by decide +kernel
theorem dX7_init_64 : decode cX7_init 64 = .ok (.return_, 1) := by decide +kernel
theorem dX7_type_0 : decode cX7_type 0 = .ok (.aload_n 0, 1) := by decide +kernel
theorem dX7_type_1 : decode cX7_type 1 = .ok (.getfield 10, 3) := by decide +kernel
theorem dX7_type_4 : decode cX7_type 4 = .ok (.getfield 40, 3) := by decide +kernel
theorem dX7_type_7 : decode cX7_type 7 = .ok (.bipush 20, 2) := by decide +kernel
theorem dX7_type_9 : decode cX7_type 9 = .ok (.if_icmp .lt 6, 3) := by decide +kernel
theorem dX7_type_12 : decode cX7_type 12 = .ok (.bipush (-3), 2) := by decide +kernel
theorem dX7_type_14 : decode cX7_type 14 = .ok (.ireturn, 1) := by decide +kernel
theorem dX7_type_15 : decode cX7_type 15 = .ok (.aload_n 0, 1) := by decide +kernel
theorem dX7_type_16 : decode cX7_type 16 = .ok (.getfield 10, 3) := by decide +kernel
theorem dX7_type_19 : decode cX7_type 19 = .ok (.getfield 43, 3) := by decide +kernel
theorem dX7_type_22 : decode cX7_type 22 = .ok (.aload_n 0, 1) := by decide +kernel
theorem dX7_type_23 : decode cX7_type 23 = .ok (.getfield 10, 3) := by decide +kernel
theorem dX7_type_26 : decode cX7_type 26 = .ok (.getfield 40, 3) := by decide +kernel
theorem dX7_type_29 : decode cX7_type 29 = .ok (.iload_n 1, 1) := by decide +kernel
theorem dX7_type_30 : decode cX7_type 30 = .ok (.invokestatic 47, 3) := by decide +kernel
theorem dX7_type_33 : decode cX7_type 33 = .ok (.aload_n 0, 1) := by decide +kernel
theorem dX7_type_34 : decode cX7_type 34 = .ok (.getfield 10, 3) := by decide +kernel
theorem dX7_type_37 : decode cX7_type 37 = .ok (.dup, 1) := by decide +kernel
theorem dX7_type_38 : decode cX7_type 38 = .ok (.getfield 40, 3) := by decide +kernel
theorem dX7_type_41 : decode cX7_type 41 = .ok (.iconst 1, 1) := by decide +kernel
theorem dX7_type_42 : decode cX7_type 42 = .ok (.iadd, 1) := by decide +kernel
theorem dX7_type_43 : decode cX7_type 43 = .ok (.putfield 40, 3) := by decide +kernel
theorem dX7_type_46 : decode cX7_type 46 = .ok (.aload_n 0, 1) := by decide +kernel
theorem dX7_type_47 : decode cX7_type 47 = .ok (.getfield 10, 3) := by decide +kernel
theorem dX7_type_50 : decode cX7_type 50 = .ok (.getfield 40, 3) := by decide +kernel
theorem dX7_type_53 : decode cX7_type 53 = .ok (.ireturn, 1) := by decide +kernel
theorem dX7_clearText_0 : decode cX7_clearText 0 = .ok (.aload_n 0, 1) := by decide +kernel
theorem dX7_clearText_1 : decode cX7_clearText 1 = .ok (.getfield 10, 3) := by decide +kernel
theorem dX7_clearText_4 : decode cX7_clearText 4 = .ok (.getfield 40, 3) := by decide +kernel
theorem dX7_clearText_7 : decode cX7_clearText 7 = .ok (.istore_n 1, 1) := by decide +kernel
theorem dX7_clearText_8 : decode cX7_clearText 8 = .ok (.aload_n 0, 1) := by decide +kernel
theorem dX7_clearText_9 : decode cX7_clearText 9 = .ok (.getfield 10, 3) := by decide +kernel
theorem dX7_clearText_12 : decode cX7_clearText 12 = .ok (.iconst 0, 1) := by decide +kernel
theorem dX7_clearText_13 : decode cX7_clearText 13 = .ok (.putfield 40, 3) := by decide +kernel
theorem dX7_clearText_16 : decode cX7_clearText 16 = .ok (.iload_n 1, 1) := by decide +kernel
theorem dX7_clearText_17 : decode cX7_clearText 17 = .ok (.ireturn, 1) := by decide +kernel
theorem dX7_addBox_0 : decode cX7_addBox 0 = .ok (.aload_n 0, 1) := by decide +kernel
theorem dX7_addBox_1 : decode cX7_addBox 1 = .ok (.getfield 19, 3) := by decide +kernel
theorem dX7_addBox_4 : decode cX7_addBox 4 = .ok (.getfield 51, 3) := by decide +kernel
theorem dX7_addBox_7 : decode cX7_addBox 7 = .ok (.astore_n 1, 1) := by decide +kernel
theorem dX7_addBox_8 : decode cX7_addBox 8 = .ok (.aload_n 0, 1) := by decide +kernel
theorem dX7_addBox_9 : decode cX7_addBox 9 = .ok (.getfield 10, 3) := by decide +kernel
theorem dX7_addBox_12 : decode cX7_addBox 12 = .ok (.invokevirtual 54, 3) := by decide +kernel
theorem dX7_addBox_15 : decode cX7_addBox 15 = .ok (.istore_n 2, 1) := by decide +kernel
theorem dX7_addBox_16 : decode cX7_addBox 16 = .ok (.iload_n 2, 1) := by decide +kernel
theorem dX7_addBox_17 : decode cX7_addBox 17 = .ok (.iconst (-1), 1) := by decide +kernel
theorem dX7_addBox_18 : decode cX7_addBox 18 = .ok (.if_icmp .eq 8, 3) := by decide +kernel
theorem dX7_addBox_21 : decode cX7_addBox 21 = .ok (.bipush (-100), 2) := by decide +kernel
theorem dX7_addBox_23 : decode cX7_addBox 23 = .ok (.iload_n 2, 1) := by decide +kernel
theorem dX7_addBox_24 : decode cX7_addBox 24 = .ok (.isub, 1) := by decide +kernel
theorem dX7_addBox_25 : decode cX7_addBox 25 = .ok (.ireturn, 1) := by decide +kernel
theorem dX7_addBox_26 : decode cX7_addBox 26 = .ok (.aload_n 0, 1) := by decide +kernel
theorem dX7_addBox_27 : decode cX7_addBox 27 = .ok (.getfield 10, 3) := by decide +kernel
theorem dX7_addBox_30 : decode cX7_addBox 30 = .ok (.getfield 58, 3) := by decide +kernel
theorem dX7_addBox_33 : decode cX7_addBox 33 = .ok (.iconst 1, 1) := by decide +kernel
theorem dX7_addBox_34 : decode cX7_addBox 34 = .ok (.if_icmp .eq 14, 3) := by decide +kernel
theorem dX7_addBox_37 : decode cX7_addBox 37 = .ok (.aload_n 0, 1) := by decide +kernel
theorem dX7_addBox_38 : decode cX7_addBox 38 = .ok (.getfield 10, 3) := by decide +kernel
theorem dX7_addBox_41 : decode cX7_addBox 41 = .ok (.getfield 58, 3) := by decide +kernel
theorem dX7_addBox_44 : decode cX7_addBox 44 = .ok (.iconst 3, 1) := by decide +kernel
theorem dX7_addBox_45 : decode cX7_addBox 45 = .ok (.if_icmp .ne 7, 3) := by decide +kernel
theorem dX7_addBox_48 : decode cX7_addBox 48 = .ok (.iconst 1, 1) := by decide +kernel
theorem dX7_addBox_49 : decode cX7_addBox 49 = .ok (.goto 4, 3) := by decide +kernel
theorem dX7_addBox_52 : decode cX7_addBox 52 = .ok (.iconst 0, 1) := by decide +kernel
theorem dX7_addBox_53 : decode cX7_addBox 53 = .ok (.istore_n 3, 1) := by decide +kernel
theorem dX7_addBox_54 : decode cX7_addBox 54 = .ok (.aload_n 1, 1) := by decide +kernel
theorem dX7_addBox_55 : decode cX7_addBox 55 = .ok (.aload_n 0, 1) := by decide +kernel
theorem dX7_addBox_56 : decode cX7_addBox 56 = .ok (.getfield 10, 3) := by decide +kernel
theorem dX7_addBox_59 : decode cX7_addBox 59 = .ok (.getfield 61, 3) := by decide +kernel
theorem dX7_addBox_62 : decode cX7_addBox 62 = .ok (.invokevirtual 64, 3) := by decide +kernel
theorem dX7_addBox_65 : decode cX7_addBox 65 = .ok (.ifCond .eq 21, 3) := by decide +kernel
theorem dX7_addBox_68 : decode cX7_addBox 68 = .ok (.iload_n 3, 1) := by decide +kernel
theorem dX7_addBox_69 : decode cX7_addBox 69 = .ok (.ifCond .eq 19, 3) := by decide +kernel
theorem dX7_addBox_72 : decode cX7_addBox 72 = .ok (.aload_n 1, 1) := by decide +kernel
theorem dX7_addBox_73 : decode cX7_addBox 73 = .ok (.aload_n 0, 1) := by decide +kernel
theorem dX7_addBox_74 : decode cX7_addBox 74 = .ok (.getfield 10, 3) := by decide +kernel
theorem dX7_addBox_77 : decode cX7_addBox 77 = .ok (.getfield 68, 3) := by decide +kernel
theorem dX7_addBox_80 : decode cX7_addBox 80 = .ok (.invokevirtual 71, 3) := by decide +kernel
theorem dX7_addBox_83 : decode cX7_addBox 83 = .ok (.ifCond .ne 5, 3) := by decide +kernel
theorem dX7_addBox_86 : decode cX7_addBox 86 = .ok (.iconst (-1), 1) := by decide +kernel
theorem dX7_addBox_87 : decode cX7_addBox 87 = .ok (.ireturn, 1) := by decide +kernel
theorem dX7_addBox_88 : decode cX7_addBox 88 = .ok (.aload_n 0, 1) := by decide +kernel
theorem dX7_addBox_89 : decode cX7_addBox 89 = .ok (.getfield 19, 3) := by decide +kernel
theorem dX7_addBox_92 : decode cX7_addBox 92 = .ok (.getfield 74, 3) := by decide +kernel
theorem dX7_addBox_95 : decode cX7_addBox 95 = .ok (.getfield 78, 3) := by decide +kernel
theorem dX7_addBox_98 : decode cX7_addBox 98 = .ok (.ifCond .eq 6, 3) := by decide +kernel
theorem dX7_addBox_101 : decode cX7_addBox 101 = .ok (.bipush (-4), 2) := by decide +kernel
theorem dX7_addBox_103 : decode cX7_addBox 103 = .ok (.ireturn, 1) := by decide +kernel
theorem dX7_addBox_104 : decode cX7_addBox 104 = .ok (.aload_n 1, 1) := by decide +kernel
theorem dX7_addBox_105 : decode cX7_addBox 105 = .ok (.getfield 84, 3) := by decide +kernel
theorem dX7_addBox_108 : decode cX7_addBox 108 = .ok (.bipush 12, 2) := by decide +kernel
theorem dX7_addBox_110 : decode cX7_addBox 110 = .ok (.if_icmp .lt 6, 3) := by decide +kernel
theorem dX7_addBox_113 : decode cX7_addBox 113 = .ok (.bipush (-3), 2) := by decide +kernel
theorem dX7_addBox_115 : decode cX7_addBox 115 = .ok (.ireturn, 1) := by decide +kernel
theorem dX7_addBox_116 : decode cX7_addBox 116 = .ok (.aload_n 1, 1) := by decide +kernel
theorem dX7_addBox_117 : decode cX7_addBox 117 = .ok (.aload_n 0, 1) := by decide +kernel
theorem dX7_addBox_118 : decode cX7_addBox 118 = .ok (.getfield 10, 3) := by decide +kernel
theorem dX7_addBox_121 : decode cX7_addBox 121 = .ok (.getfield 61, 3) := by decide +kernel
theorem dX7_addBox_124 : decode cX7_addBox 124 = .ok (.aload_n 0, 1) := by decide +kernel
theorem dX7_addBox_125 : decode cX7_addBox 125 = .ok (.getfield 10, 3) := by decide +kernel
theorem dX7_addBox_128 : decode cX7_addBox 128 = .ok (.getfield 58, 3) := by decide +kernel
theorem dX7_addBox_131 : decode cX7_addBox 131 = .ok (.aload_n 0, 1) := by decide +kernel
theorem dX7_addBox_132 : decode cX7_addBox 132 = .ok (.getfield 10, 3) := by decide +kernel
theorem dX7_addBox_135 : decode cX7_addBox 135 = .ok (.getfield 68, 3) := by decide +kernel
theorem dX7_addBox_138 : decode cX7_addBox 138 = .ok (.invokevirtual 87, 3) := by decide +kernel
theorem dX7_addBox_141 : decode cX7_addBox 141 = .ok (.ireturn, 1) := by decide +kernel
theorem dX7_addProp_0 : decode cX7_addProp 0 = .ok (.aload_n 0, 1) := by decide +kernel
theorem dX7_addProp_1 : decode cX7_addProp 1 = .ok (.getfield 19, 3) := by decide +kernel
theorem dX7_addProp_4 : decode cX7_addProp 4 = .ok (.getfield 51, 3) := by decide +kernel
theorem dX7_addProp_7 : decode cX7_addProp 7 = .ok (.iload_n 1, 1) := by decide +kernel
theorem dX7_addProp_8 : decode cX7_addProp 8 = .ok (.invokevirtual 64, 3) := by decide +kernel
theorem dX7_addProp_11 : decode cX7_addProp 11 = .ok (.ifCond .ne 5, 3) := by decide +kernel
theorem dX7_addProp_14 : decode cX7_addProp 14 = .ok (.iconst (-1), 1) := by decide +kernel
theorem dX7_addProp_15 : decode cX7_addProp 15 = .ok (.ireturn, 1) := by decide +kernel
theorem dX7_addProp_16 : decode cX7_addProp 16 = .ok (.aload_n 0, 1) := by decide +kernel
theorem dX7_addProp_17 : decode cX7_addProp 17 = .ok (.getfield 19, 3) := by decide +kernel
theorem dX7_addProp_20 : decode cX7_addProp 20 = .ok (.getfield 74, 3) := by decide +kernel
theorem dX7_addProp_23 : decode cX7_addProp 23 = .ok (.getfield 78, 3) := by decide +kernel
theorem dX7_addProp_26 : decode cX7_addProp 26 = .ok (.ifCond .eq 6, 3) := by decide +kernel
theorem dX7_addProp_29 : decode cX7_addProp 29 = .ok (.bipush (-4), 2) := by decide +kernel
theorem dX7_addProp_31 : decode cX7_addProp 31 = .ok (.ireturn, 1) := by decide +kernel
theorem dX7_addProp_32 : decode cX7_addProp 32 = .ok (.aload_n 0, 1) := by decide +kernel
theorem dX7_addProp_33 : decode cX7_addProp 33 = .ok (.getfield 19, 3) := by decide +kernel
theorem dX7_addProp_36 : decode cX7_addProp 36 = .ok (.getfield 51, 3) := by decide +kernel
theorem dX7_addProp_39 : decode cX7_addProp 39 = .ok (.getfield 91, 3) := by decide +kernel
theorem dX7_addProp_42 : decode cX7_addProp 42 = .ok (.bipush 24, 2) := by decide +kernel
theorem dX7_addProp_44 : decode cX7_addProp 44 = .ok (.if_icmp .lt 6, 3) := by decide +kernel
theorem dX7_addProp_47 : decode cX7_addProp 47 = .ok (.bipush (-3), 2) := by decide +kernel
theorem dX7_addProp_49 : decode cX7_addProp 49 = .ok (.ireturn, 1) := by decide +kernel
theorem dX7_addProp_50 : decode cX7_addProp 50 = .ok (.aload_n 0, 1) := by decide +kernel
theorem dX7_addProp_51 : decode cX7_addProp 51 = .ok (.getfield 19, 3) := by decide +kernel
theorem dX7_addProp_54 : decode cX7_addProp 54 = .ok (.getfield 51, 3) := by decide +kernel
theorem dX7_addProp_57 : decode cX7_addProp 57 = .ok (.iload_n 1, 1) := by decide +kernel
theorem dX7_addProp_58 : decode cX7_addProp 58 = .ok (.invokevirtual 94, 3) := by decide +kernel
theorem dX7_addProp_61 : decode cX7_addProp 61 = .ok (.ireturn, 1) := by decide +kernel
theorem dX7_addClue_0 : decode cX7_addClue 0 = .ok (.aload_n 0, 1) := by decide +kernel
theorem dX7_addClue_1 : decode cX7_addClue 1 = .ok (.getfield 19, 3) := by decide +kernel
theorem dX7_addClue_4 : decode cX7_addClue 4 = .ok (.getfield 51, 3) := by decide +kernel
theorem dX7_addClue_7 : decode cX7_addClue 7 = .ok (.astore 4, 2) := by decide +kernel
theorem dX7_addClue_9 : decode cX7_addClue 9 = .ok (.aload 4, 2) := by decide +kernel
theorem dX7_addClue_11 : decode cX7_addClue 11 = .ok (.iload_n 1, 1) := by decide +kernel
theorem dX7_addClue_12 : decode cX7_addClue 12 = .ok (.invokevirtual 71, 3) := by decide +kernel
theorem dX7_addClue_15 : decode cX7_addClue 15 = .ok (.ifCond .eq 12, 3) := by decide +kernel
theorem dX7_addClue_18 : decode cX7_addClue 18 = .ok (.aload 4, 2) := by decide +kernel
theorem dX7_addClue_20 : decode cX7_addClue 20 = .ok (.iload_n 2, 1) := by decide +kernel
theorem dX7_addClue_21 : decode cX7_addClue 21 = .ok (.invokevirtual 64, 3) := by decide +kernel
theorem dX7_addClue_24 : decode cX7_addClue 24 = .ok (.ifCond .ne 5, 3) := by decide +kernel
theorem dX7_addClue_27 : decode cX7_addClue 27 = .ok (.iconst (-1), 1) := by decide +kernel
theorem dX7_addClue_28 : decode cX7_addClue 28 = .ok (.ireturn, 1) := by decide +kernel
theorem dX7_addClue_29 : decode cX7_addClue 29 = .ok (.iload_n 3, 1) := by decide +kernel
theorem dX7_addClue_30 : decode cX7_addClue 30 = .ok (.ifCond .lt 8, 3) := by decide +kernel
theorem dX7_addClue_33 : decode cX7_addClue 33 = .ok (.iload_n 3, 1) := by decide +kernel
theorem dX7_addClue_34 : decode cX7_addClue 34 = .ok (.iconst 4, 1) := by decide +kernel
theorem dX7_addClue_35 : decode cX7_addClue 35 = .ok (.if_icmp .lt 6, 3) := by decide +kernel
theorem dX7_addClue_38 : decode cX7_addClue 38 = .ok (.bipush (-2), 2) := by decide +kernel
theorem dX7_addClue_40 : decode cX7_addClue 40 = .ok (.ireturn, 1) := by decide +kernel
theorem dX7_addClue_41 : decode cX7_addClue 41 = .ok (.aload 4, 2) := by decide +kernel
theorem dX7_addClue_43 : decode cX7_addClue 43 = .ok (.iload_n 2, 1) := by decide +kernel
theorem dX7_addClue_44 : decode cX7_addClue 44 = .ok (.iconst 2, 1) := by decide +kernel
theorem dX7_addClue_45 : decode cX7_addClue 45 = .ok (.invokevirtual 98, 3) := by decide +kernel
theorem dX7_addClue_48 : decode cX7_addClue 48 = .ok (.ifCond .eq 16, 3) := by decide +kernel
theorem dX7_addClue_51 : decode cX7_addClue 51 = .ok (.aload_n 0, 1) := by decide +kernel
theorem dX7_addClue_52 : decode cX7_addClue 52 = .ok (.getfield 19, 3) := by decide +kernel
theorem dX7_addClue_55 : decode cX7_addClue 55 = .ok (.getfield 74, 3) := by decide +kernel
theorem dX7_addClue_58 : decode cX7_addClue 58 = .ok (.getfield 78, 3) := by decide +kernel
theorem dX7_addClue_61 : decode cX7_addClue 61 = .ok (.ifCond .eq 6, 3) := by decide +kernel
theorem dX7_addClue_64 : decode cX7_addClue 64 = .ok (.bipush (-4), 2) := by decide +kernel
theorem dX7_addClue_66 : decode cX7_addClue 66 = .ok (.ireturn, 1) := by decide +kernel
theorem dX7_addClue_67 : decode cX7_addClue 67 = .ok (.aload 4, 2) := by decide +kernel
theorem dX7_addClue_69 : decode cX7_addClue 69 = .ok (.getfield 102, 3) := by decide +kernel
theorem dX7_addClue_72 : decode cX7_addClue 72 = .ok (.bipush 12, 2) := by decide +kernel
theorem dX7_addClue_74 : decode cX7_addClue 74 = .ok (.if_icmp .lt 6, 3) := by decide +kernel
theorem dX7_addClue_77 : decode cX7_addClue 77 = .ok (.bipush (-3), 2) := by decide +kernel
theorem dX7_addClue_79 : decode cX7_addClue 79 = .ok (.ireturn, 1) := by decide +kernel
theorem dX7_addClue_80 : decode cX7_addClue 80 = .ok (.aload 4, 2) := by decide +kernel
theorem dX7_addClue_82 : decode cX7_addClue 82 = .ok (.iload_n 1, 1) := by decide +kernel
theorem dX7_addClue_83 : decode cX7_addClue 83 = .ok (.iload_n 2, 1) := by decide +kernel
theorem dX7_addClue_84 : decode cX7_addClue 84 = .ok (.iload_n 3, 1) := by decide +kernel
theorem dX7_addClue_85 : decode cX7_addClue 85 = .ok (.invokevirtual 105, 3) := by decide +kernel
theorem dX7_addClue_88 : decode cX7_addClue 88 = .ok (.ireturn, 1) := by decide +kernel
theorem dX7_setExit_0 : decode cX7_setExit 0 = .ok (.aload_n 0, 1) := by decide +kernel
theorem dX7_setExit_1 : decode cX7_setExit 1 = .ok (.getfield 19, 3) := by decide +kernel
theorem dX7_setExit_4 : decode cX7_setExit 4 = .ok (.getfield 51, 3) := by decide +kernel
theorem dX7_setExit_7 : decode cX7_setExit 7 = .ok (.iload_n 1, 1) := by decide +kernel
theorem dX7_setExit_8 : decode cX7_setExit 8 = .ok (.invokevirtual 64, 3) := by decide +kernel
theorem dX7_setExit_11 : decode cX7_setExit 11 = .ok (.ifCond .ne 5, 3) := by decide +kernel
theorem dX7_setExit_14 : decode cX7_setExit 14 = .ok (.iconst (-1), 1) := by decide +kernel
theorem dX7_setExit_15 : decode cX7_setExit 15 = .ok (.ireturn, 1) := by decide +kernel
theorem dX7_setExit_16 : decode cX7_setExit 16 = .ok (.iload_n 1, 1) := by decide +kernel
theorem dX7_setExit_17 : decode cX7_setExit 17 = .ok (.ifCond .ne 6, 3) := by decide +kernel
theorem dX7_setExit_20 : decode cX7_setExit 20 = .ok (.bipush (-2), 2) := by decide +kernel
theorem dX7_setExit_22 : decode cX7_setExit 22 = .ok (.ireturn, 1) := by decide +kernel
theorem dX7_setExit_23 : decode cX7_setExit 23 = .ok (.aload_n 0, 1) := by decide +kernel
theorem dX7_setExit_24 : decode cX7_setExit 24 = .ok (.getfield 19, 3) := by decide +kernel
theorem dX7_setExit_27 : decode cX7_setExit 27 = .ok (.getfield 74, 3) := by decide +kernel
theorem dX7_setExit_30 : decode cX7_setExit 30 = .ok (.getfield 78, 3) := by decide +kernel
theorem dX7_setExit_33 : decode cX7_setExit 33 = .ok (.ifCond .eq 6, 3) := by decide +kernel
theorem dX7_setExit_36 : decode cX7_setExit 36 = .ok (.bipush (-4), 2) := by decide +kernel
theorem dX7_setExit_38 : decode cX7_setExit 38 = .ok (.ireturn, 1) := by decide +kernel
theorem dX7_setExit_39 : decode cX7_setExit 39 = .ok (.aload_n 0, 1) := by decide +kernel
theorem dX7_setExit_40 : decode cX7_setExit 40 = .ok (.getfield 19, 3) := by decide +kernel
theorem dX7_setExit_43 : decode cX7_setExit 43 = .ok (.getfield 51, 3) := by decide +kernel
theorem dX7_setExit_46 : decode cX7_setExit 46 = .ok (.getfield 108, 3) := by decide +kernel
theorem dX7_setExit_49 : decode cX7_setExit 49 = .ok (.istore_n 2, 1) := by decide +kernel
theorem dX7_setExit_50 : decode cX7_setExit 50 = .ok (.iload_n 2, 1) := by decide +kernel
theorem dX7_setExit_51 : decode cX7_setExit 51 = .ok (.iload_n 1, 1) := by decide +kernel
theorem dX7_setExit_52 : decode cX7_setExit 52 = .ok (.if_icmp .ne 6, 3) := by decide +kernel
theorem dX7_setExit_55 : decode cX7_setExit 55 = .ok (.bipush (-5), 2) := by decide +kernel
theorem dX7_setExit_57 : decode cX7_setExit 57 = .ok (.ireturn, 1) := by decide +kernel
theorem dX7_setExit_58 : decode cX7_setExit 58 = .ok (.aload_n 0, 1) := by decide +kernel
theorem dX7_setExit_59 : decode cX7_setExit 59 = .ok (.getfield 19, 3) := by decide +kernel
theorem dX7_setExit_62 : decode cX7_setExit 62 = .ok (.getfield 51, 3) := by decide +kernel
theorem dX7_setExit_65 : decode cX7_setExit 65 = .ok (.iload_n 1, 1) := by decide +kernel
theorem dX7_setExit_66 : decode cX7_setExit 66 = .ok (.putfield 108, 3) := by decide +kernel
theorem dX7_setExit_69 : decode cX7_setExit 69 = .ok (.iload_n 2, 1) := by decide +kernel
theorem dX7_setExit_70 : decode cX7_setExit 70 = .ok (.ireturn, 1) := by decide +kernel
theorem dX7_setLimits_0 : decode cX7_setLimits 0 = .ok (.iload_n 1, 1) := by decide +kernel
theorem dX7_setLimits_1 : decode cX7_setLimits 1 = .ok (.bipush 10, 2) := by decide +kernel
theorem dX7_setLimits_3 : decode cX7_setLimits 3 = .ok (.if_icmp .lt 19, 3) := by decide +kernel
theorem dX7_setLimits_6 : decode cX7_setLimits 6 = .ok (.iload_n 1, 1) := by decide +kernel
theorem dX7_setLimits_7 : decode cX7_setLimits 7 = .ok (.bipush 120, 2) := by decide +kernel
theorem dX7_setLimits_9 : decode cX7_setLimits 9 = .ok (.if_icmp .gt 13, 3) := by decide +kernel
theorem dX7_setLimits_12 : decode cX7_setLimits 12 = .ok (.iload_n 2, 1) := by decide +kernel
theorem dX7_setLimits_13 : decode cX7_setLimits 13 = .ok (.ifCond .lt 9, 3) := by decide +kernel
theorem dX7_setLimits_16 : decode cX7_setLimits 16 = .ok (.iload_n 2, 1) := by decide +kernel
theorem dX7_setLimits_17 : decode cX7_setLimits 17 = .ok (.bipush 9, 2) := by decide +kernel
theorem dX7_setLimits_19 : decode cX7_setLimits 19 = .ok (.if_icmp .le 6, 3) := by decide +kernel
theorem dX7_setLimits_22 : decode cX7_setLimits 22 = .ok (.bipush (-2), 2) := by decide +kernel
theorem dX7_setLimits_24 : decode cX7_setLimits 24 = .ok (.ireturn, 1) := by decide +kernel
theorem dX7_setLimits_25 : decode cX7_setLimits 25 = .ok (.aload_n 0, 1) := by decide +kernel
theorem dX7_setLimits_26 : decode cX7_setLimits 26 = .ok (.getfield 19, 3) := by decide +kernel
theorem dX7_setLimits_29 : decode cX7_setLimits 29 = .ok (.getfield 74, 3) := by decide +kernel
theorem dX7_setLimits_32 : decode cX7_setLimits 32 = .ok (.getfield 78, 3) := by decide +kernel
theorem dX7_setLimits_35 : decode cX7_setLimits 35 = .ok (.ifCond .eq 6, 3) := by decide +kernel
theorem dX7_setLimits_38 : decode cX7_setLimits 38 = .ok (.bipush (-4), 2) := by decide +kernel
theorem dX7_setLimits_40 : decode cX7_setLimits 40 = .ok (.ireturn, 1) := by decide +kernel
theorem dX7_setLimits_41 : decode cX7_setLimits 41 = .ok (.aload_n 0, 1) := by decide +kernel
theorem dX7_setLimits_42 : decode cX7_setLimits 42 = .ok (.getfield 19, 3) := by decide +kernel
theorem dX7_setLimits_45 : decode cX7_setLimits 45 = .ok (.getfield 111, 3) := by decide +kernel
theorem dX7_setLimits_48 : decode cX7_setLimits 48 = .ok (.istore_n 3, 1) := by decide +kernel
theorem dX7_setLimits_49 : decode cX7_setLimits 49 = .ok (.iload_n 3, 1) := by decide +kernel
theorem dX7_setLimits_50 : decode cX7_setLimits 50 = .ok (.iload_n 1, 1) := by decide +kernel
theorem dX7_setLimits_51 : decode cX7_setLimits 51 = .ok (.if_icmp .ne 17, 3) := by decide +kernel
theorem dX7_setLimits_54 : decode cX7_setLimits 54 = .ok (.aload_n 0, 1) := by decide +kernel
theorem dX7_setLimits_55 : decode cX7_setLimits 55 = .ok (.getfield 19, 3) := by decide +kernel
theorem dX7_setLimits_58 : decode cX7_setLimits 58 = .ok (.getfield 114, 3) := by decide +kernel
theorem dX7_setLimits_61 : decode cX7_setLimits 61 = .ok (.iload_n 2, 1) := by decide +kernel
theorem dX7_setLimits_62 : decode cX7_setLimits 62 = .ok (.if_icmp .ne 6, 3) := by decide +kernel
theorem dX7_setLimits_65 : decode cX7_setLimits 65 = .ok (.bipush (-5), 2) := by decide +kernel
theorem dX7_setLimits_67 : decode cX7_setLimits 67 = .ok (.ireturn, 1) := by decide +kernel
theorem dX7_setLimits_68 : decode cX7_setLimits 68 = .ok (.aload_n 0, 1) := by decide +kernel
theorem dX7_setLimits_69 : decode cX7_setLimits 69 = .ok (.getfield 19, 3) := by decide +kernel
theorem dX7_setLimits_72 : decode cX7_setLimits 72 = .ok (.iload_n 1, 1) := by decide +kernel
theorem dX7_setLimits_73 : decode cX7_setLimits 73 = .ok (.putfield 111, 3) := by decide +kernel
theorem dX7_setLimits_76 : decode cX7_setLimits 76 = .ok (.aload_n 0, 1) := by decide +kernel
theorem dX7_setLimits_77 : decode cX7_setLimits 77 = .ok (.getfield 19, 3) := by decide +kernel
theorem dX7_setLimits_80 : decode cX7_setLimits 80 = .ok (.iload_n 2, 1) := by decide +kernel
theorem dX7_setLimits_81 : decode cX7_setLimits 81 = .ok (.putfield 114, 3) := by decide +kernel
theorem dX7_setLimits_84 : decode cX7_setLimits 84 = .ok (.iload_n 3, 1) := by decide +kernel
theorem dX7_setLimits_85 : decode cX7_setLimits 85 = .ok (.ireturn, 1) := by decide +kernel
theorem dX7_addPaint_0 : decode cX7_addPaint 0 = .ok (.iload_n 1, 1) := by decide +kernel
theorem dX7_addPaint_1 : decode cX7_addPaint 1 = .ok (.iconst 1, 1) := by decide +kernel
theorem dX7_addPaint_2 : decode cX7_addPaint 2 = .ok (.if_icmp .lt 10, 3) := by decide +kernel
theorem dX7_addPaint_5 : decode cX7_addPaint 5 = .ok (.iload_n 1, 1) := by decide +kernel
theorem dX7_addPaint_6 : decode cX7_addPaint 6 = .ok (.sipush 1000, 3) := by decide +kernel
theorem dX7_addPaint_9 : decode cX7_addPaint 9 = .ok (.if_icmp .le 6, 3) := by decide +kernel
theorem dX7_addPaint_12 : decode cX7_addPaint 12 = .ok (.bipush (-2), 2) := by decide +kernel
theorem dX7_addPaint_14 : decode cX7_addPaint 14 = .ok (.ireturn, 1) := by decide +kernel
theorem dX7_addPaint_15 : decode cX7_addPaint 15 = .ok (.aload_n 0, 1) := by decide +kernel
theorem dX7_addPaint_16 : decode cX7_addPaint 16 = .ok (.getfield 19, 3) := by decide +kernel
theorem dX7_addPaint_19 : decode cX7_addPaint 19 = .ok (.dup, 1) := by decide +kernel
theorem dX7_addPaint_20 : decode cX7_addPaint 20 = .ok (.getfield 117, 3) := by decide +kernel
theorem dX7_addPaint_23 : decode cX7_addPaint 23 = .ok (.iload_n 1, 1) := by decide +kernel
theorem dX7_addPaint_24 : decode cX7_addPaint 24 = .ok (.iadd, 1) := by decide +kernel
theorem dX7_addPaint_25 : decode cX7_addPaint 25 = .ok (.putfield 117, 3) := by decide +kernel
theorem dX7_addPaint_28 : decode cX7_addPaint 28 = .ok (.aload_n 0, 1) := by decide +kernel
theorem dX7_addPaint_29 : decode cX7_addPaint 29 = .ok (.getfield 19, 3) := by decide +kernel
theorem dX7_addPaint_32 : decode cX7_addPaint 32 = .ok (.getfield 117, 3) := by decide +kernel
theorem dX7_addPaint_35 : decode cX7_addPaint 35 = .ok (.ireturn, 1) := by decide +kernel
theorem dX7_book_0 : decode cX7_book 0 = .ok (.aload_n 0, 1) := by decide +kernel
theorem dX7_book_1 : decode cX7_book 1 = .ok (.getfield 19, 3) := by decide +kernel
theorem dX7_book_4 : decode cX7_book 4 = .ok (.getfield 120, 3) := by decide +kernel
theorem dX7_book_7 : decode cX7_book 7 = .ok (.astore_n 3, 1) := by decide +kernel
theorem dX7_book_8 : decode cX7_book 8 = .ok (.iload_n 1, 1) := by decide +kernel
theorem dX7_book_9 : decode cX7_book 9 = .ok (.invokestatic 124, 3) := by decide +kernel
theorem dX7_book_12 : decode cX7_book 12 = .ok (.ifCond .eq 13, 3) := by decide +kernel
theorem dX7_book_15 : decode cX7_book 15 = .ok (.iload_n 2, 1) := by decide +kernel
theorem dX7_book_16 : decode cX7_book 16 = .ok (.ifCond .lt 9, 3) := by decide +kernel
theorem dX7_book_19 : decode cX7_book 19 = .ok (.iload_n 2, 1) := by decide +kernel
theorem dX7_book_20 : decode cX7_book 20 = .ok (.ldc 127, 2) := by decide +kernel
theorem dX7_book_22 : decode cX7_book 22 = .ok (.if_icmp .le 6, 3) := by decide +kernel
theorem dX7_book_25 : decode cX7_book 25 = .ok (.bipush (-2), 2) := by decide +kernel
theorem dX7_book_27 : decode cX7_book 27 = .ok (.ireturn, 1) := by decide +kernel
theorem dX7_book_28 : decode cX7_book 28 = .ok (.aload_n 3, 1) := by decide +kernel
theorem dX7_book_29 : decode cX7_book 29 = .ok (.getfield 128, 3) := by decide +kernel
theorem dX7_book_32 : decode cX7_book 32 = .ok (.ifCond .le 23, 3) := by decide +kernel
theorem dX7_book_35 : decode cX7_book 35 = .ok (.aload_n 3, 1) := by decide +kernel
theorem dX7_book_36 : decode cX7_book 36 = .ok (.getfield 133, 3) := by decide +kernel
theorem dX7_book_39 : decode cX7_book 39 = .ok (.aload_n 3, 1) := by decide +kernel
theorem dX7_book_40 : decode cX7_book 40 = .ok (.getfield 128, 3) := by decide +kernel
theorem dX7_book_43 : decode cX7_book 43 = .ok (.iconst 1, 1) := by decide +kernel
theorem dX7_book_44 : decode cX7_book 44 = .ok (.isub, 1) := by decide +kernel
theorem dX7_book_45 : decode cX7_book 45 = .ok (.invokestatic 136, 3) := by decide +kernel
theorem dX7_book_48 : decode cX7_book 48 = .ok (.iload_n 2, 1) := by decide +kernel
theorem dX7_book_49 : decode cX7_book 49 = .ok (.if_icmp .le 6, 3) := by decide +kernel
theorem dX7_book_52 : decode cX7_book 52 = .ok (.bipush (-4), 2) := by decide +kernel
theorem dX7_book_54 : decode cX7_book 54 = .ok (.ireturn, 1) := by decide +kernel
theorem dX7_book_55 : decode cX7_book 55 = .ok (.aload_n 3, 1) := by decide +kernel
theorem dX7_book_56 : decode cX7_book 56 = .ok (.getfield 128, 3) := by decide +kernel
theorem dX7_book_59 : decode cX7_book 59 = .ok (.bipush 8, 2) := by decide +kernel
theorem dX7_book_61 : decode cX7_book 61 = .ok (.if_icmp .lt 6, 3) := by decide +kernel
theorem dX7_book_64 : decode cX7_book 64 = .ok (.bipush (-3), 2) := by decide +kernel
theorem dX7_book_66 : decode cX7_book 66 = .ok (.ireturn, 1) := by decide +kernel
theorem dX7_book_67 : decode cX7_book 67 = .ok (.aload_n 3, 1) := by decide +kernel
theorem dX7_book_68 : decode cX7_book 68 = .ok (.iload_n 1, 1) := by decide +kernel
theorem dX7_book_69 : decode cX7_book 69 = .ok (.iload_n 2, 1) := by decide +kernel
theorem dX7_book_70 : decode cX7_book 70 = .ok (.invokevirtual 140, 3) := by decide +kernel
theorem dX7_book_73 : decode cX7_book 73 = .ok (.aload_n 3, 1) := by decide +kernel
theorem dX7_book_74 : decode cX7_book 74 = .ok (.getfield 128, 3) := by decide +kernel
theorem dX7_book_77 : decode cX7_book 77 = .ok (.ireturn, 1) := by decide +kernel
theorem dX7_cancel_0 : decode cX7_cancel 0 = .ok (.aload_n 0, 1) := by decide +kernel
theorem dX7_cancel_1 : decode cX7_cancel 1 = .ok (.getfield 19, 3) := by decide +kernel
theorem dX7_cancel_4 : decode cX7_cancel 4 = .ok (.getfield 120, 3) := by decide +kernel
theorem dX7_cancel_7 : decode cX7_cancel 7 = .ok (.iload_n 1, 1) := by decide +kernel
theorem dX7_cancel_8 : decode cX7_cancel 8 = .ok (.invokevirtual 144, 3) := by decide +kernel
theorem dX7_cancel_11 : decode cX7_cancel 11 = .ok (.ifCond .ne 5, 3) := by decide +kernel
theorem dX7_cancel_14 : decode cX7_cancel 14 = .ok (.iconst (-1), 1) := by decide +kernel
theorem dX7_cancel_15 : decode cX7_cancel 15 = .ok (.ireturn, 1) := by decide +kernel
theorem dX7_cancel_16 : decode cX7_cancel 16 = .ok (.aload_n 0, 1) := by decide +kernel
theorem dX7_cancel_17 : decode cX7_cancel 17 = .ok (.getfield 19, 3) := by decide +kernel
theorem dX7_cancel_20 : decode cX7_cancel 20 = .ok (.getfield 120, 3) := by decide +kernel
theorem dX7_cancel_23 : decode cX7_cancel 23 = .ok (.iload_n 1, 1) := by decide +kernel
theorem dX7_cancel_24 : decode cX7_cancel 24 = .ok (.invokevirtual 147, 3) := by decide +kernel
theorem dX7_cancel_27 : decode cX7_cancel 27 = .ok (.aload_n 0, 1) := by decide +kernel
theorem dX7_cancel_28 : decode cX7_cancel 28 = .ok (.getfield 19, 3) := by decide +kernel
theorem dX7_cancel_31 : decode cX7_cancel 31 = .ok (.getfield 120, 3) := by decide +kernel
theorem dX7_cancel_34 : decode cX7_cancel 34 = .ok (.getfield 128, 3) := by decide +kernel
theorem dX7_cancel_37 : decode cX7_cancel 37 = .ok (.ireturn, 1) := by decide +kernel
theorem dX7_startGame_0 : decode cX7_startGame 0 = .ok (.aload_n 0, 1) := by decide +kernel
theorem dX7_startGame_1 : decode cX7_startGame 1 = .ok (.getfield 19, 3) := by decide +kernel
theorem dX7_startGame_4 : decode cX7_startGame 4 = .ok (.getfield 51, 3) := by decide +kernel
theorem dX7_startGame_7 : decode cX7_startGame 7 = .ok (.astore_n 1, 1) := by decide +kernel
theorem dX7_startGame_8 : decode cX7_startGame 8 = .ok (.aload_n 0, 1) := by decide +kernel
theorem dX7_startGame_9 : decode cX7_startGame 9 = .ok (.getfield 19, 3) := by decide +kernel
theorem dX7_startGame_12 : decode cX7_startGame 12 = .ok (.getfield 74, 3) := by decide +kernel
theorem dX7_startGame_15 : decode cX7_startGame 15 = .ok (.getfield 78, 3) := by decide +kernel
theorem dX7_startGame_18 : decode cX7_startGame 18 = .ok (.ifCond .ne 34, 3) := by decide +kernel
theorem dX7_startGame_21 : decode cX7_startGame 21 = .ok (.aload_n 0, 1) := by decide +kernel
theorem dX7_startGame_22 : decode cX7_startGame 22 = .ok (.getfield 19, 3) := by decide +kernel
theorem dX7_startGame_25 : decode cX7_startGame 25 = .ok (.getfield 120, 3) := by decide +kernel
theorem dX7_startGame_28 : decode cX7_startGame 28 = .ok (.getfield 128, 3) := by decide +kernel
theorem dX7_startGame_31 : decode cX7_startGame 31 = .ok (.ifCond .eq 21, 3) := by decide +kernel
theorem dX7_startGame_34 : decode cX7_startGame 34 = .ok (.aload_n 1, 1) := by decide +kernel
theorem dX7_startGame_35 : decode cX7_startGame 35 = .ok (.getfield 108, 3) := by decide +kernel
theorem dX7_startGame_38 : decode cX7_startGame 38 = .ok (.ifCond .eq 14, 3) := by decide +kernel
theorem dX7_startGame_41 : decode cX7_startGame 41 = .ok (.aload_n 1, 1) := by decide +kernel
theorem dX7_startGame_42 : decode cX7_startGame 42 = .ok (.aload_n 1, 1) := by decide +kernel
theorem dX7_startGame_43 : decode cX7_startGame 43 = .ok (.getfield 108, 3) := by decide +kernel
theorem dX7_startGame_46 : decode cX7_startGame 46 = .ok (.invokevirtual 151, 3) := by decide +kernel
theorem dX7_startGame_49 : decode cX7_startGame 49 = .ok (.ifCond .eq 6, 3) := by decide +kernel
theorem dX7_startGame_52 : decode cX7_startGame 52 = .ok (.bipush (-4), 2) := by decide +kernel
theorem dX7_startGame_54 : decode cX7_startGame 54 = .ok (.ireturn, 1) := by decide +kernel
theorem dX7_startGame_55 : decode cX7_startGame 55 = .ok (.aload_n 0, 1) := by decide +kernel
theorem dX7_startGame_56 : decode cX7_startGame 56 = .ok (.getfield 19, 3) := by decide +kernel
theorem dX7_startGame_59 : decode cX7_startGame 59 = .ok (.getfield 154, 3) := by decide +kernel
theorem dX7_startGame_62 : decode cX7_startGame 62 = .ok (.getfield 158, 3) := by decide +kernel
theorem dX7_startGame_65 : decode cX7_startGame 65 = .ok (.bipush 30, 2) := by decide +kernel
theorem dX7_startGame_67 : decode cX7_startGame 67 = .ok (.if_icmp .lt 6, 3) := by decide +kernel
theorem dX7_startGame_70 : decode cX7_startGame 70 = .ok (.bipush (-3), 2) := by decide +kernel
theorem dX7_startGame_72 : decode cX7_startGame 72 = .ok (.ireturn, 1) := by decide +kernel
theorem dX7_startGame_73 : decode cX7_startGame 73 = .ok (.aload_n 0, 1) := by decide +kernel
theorem dX7_startGame_74 : decode cX7_startGame 74 = .ok (.getfield 19, 3) := by decide +kernel
theorem dX7_startGame_77 : decode cX7_startGame 77 = .ok (.invokevirtual 163, 3) := by decide +kernel
theorem dX7_startGame_80 : decode cX7_startGame 80 = .ok (.ireturn, 1) := by decide +kernel
theorem dX7_take_0 : decode cX7_take 0 = .ok (.aload_n 0, 1) := by decide +kernel
theorem dX7_take_1 : decode cX7_take 1 = .ok (.getfield 19, 3) := by decide +kernel
theorem dX7_take_4 : decode cX7_take 4 = .ok (.getfield 51, 3) := by decide +kernel
theorem dX7_take_7 : decode cX7_take 7 = .ok (.astore_n 2, 1) := by decide +kernel
theorem dX7_take_8 : decode cX7_take 8 = .ok (.aload_n 2, 1) := by decide +kernel
theorem dX7_take_9 : decode cX7_take 9 = .ok (.iload_n 1, 1) := by decide +kernel
theorem dX7_take_10 : decode cX7_take 10 = .ok (.invokevirtual 71, 3) := by decide +kernel
theorem dX7_take_13 : decode cX7_take 13 = .ok (.ifCond .ne 5, 3) := by decide +kernel
theorem dX7_take_16 : decode cX7_take 16 = .ok (.iconst (-1), 1) := by decide +kernel
theorem dX7_take_17 : decode cX7_take 17 = .ok (.ireturn, 1) := by decide +kernel
theorem dX7_take_18 : decode cX7_take 18 = .ok (.aload_n 0, 1) := by decide +kernel
theorem dX7_take_19 : decode cX7_take 19 = .ok (.getfield 19, 3) := by decide +kernel
theorem dX7_take_22 : decode cX7_take 22 = .ok (.getfield 74, 3) := by decide +kernel
theorem dX7_take_25 : decode cX7_take 25 = .ok (.getfield 78, 3) := by decide +kernel
theorem dX7_take_28 : decode cX7_take 28 = .ok (.ifCond .eq 19, 3) := by decide +kernel
theorem dX7_take_31 : decode cX7_take 31 = .ok (.aload_n 2, 1) := by decide +kernel
theorem dX7_take_32 : decode cX7_take 32 = .ok (.iload_n 1, 1) := by decide +kernel
theorem dX7_take_33 : decode cX7_take 33 = .ok (.invokevirtual 166, 3) := by decide +kernel
theorem dX7_take_36 : decode cX7_take 36 = .ok (.ifCond .ne 11, 3) := by decide +kernel
theorem dX7_take_39 : decode cX7_take 39 = .ok (.aload_n 2, 1) := by decide +kernel
theorem dX7_take_40 : decode cX7_take 40 = .ok (.iload_n 1, 1) := by decide +kernel
theorem dX7_take_41 : decode cX7_take 41 = .ok (.invokevirtual 169, 3) := by decide +kernel
theorem dX7_take_44 : decode cX7_take 44 = .ok (.ifCond .ne 6, 3) := by decide +kernel
theorem dX7_take_47 : decode cX7_take 47 = .ok (.bipush (-4), 2) := by decide +kernel
theorem dX7_take_49 : decode cX7_take 49 = .ok (.ireturn, 1) := by decide +kernel
theorem dX7_take_50 : decode cX7_take 50 = .ok (.aload_n 2, 1) := by decide +kernel
theorem dX7_take_51 : decode cX7_take 51 = .ok (.invokevirtual 172, 3) := by decide +kernel
theorem dX7_take_54 : decode cX7_take 54 = .ok (.aload_n 2, 1) := by decide +kernel
theorem dX7_take_55 : decode cX7_take 55 = .ok (.getfield 175, 3) := by decide +kernel
theorem dX7_take_58 : decode cX7_take 58 = .ok (.if_icmp .lt 6, 3) := by decide +kernel
theorem dX7_take_61 : decode cX7_take 61 = .ok (.bipush (-3), 2) := by decide +kernel
theorem dX7_take_63 : decode cX7_take 63 = .ok (.ireturn, 1) := by decide +kernel
theorem dX7_take_64 : decode cX7_take 64 = .ok (.iconst 3, 1) := by decide +kernel
theorem dX7_take_65 : decode cX7_take 65 = .ok (.aload_n 2, 1) := by decide +kernel
theorem dX7_take_66 : decode cX7_take 66 = .ok (.getfield 175, 3) := by decide +kernel
theorem dX7_take_69 : decode cX7_take 69 = .ok (.invokestatic 178, 3) := by decide +kernel
theorem dX7_take_72 : decode cX7_take 72 = .ok (.istore_n 3, 1) := by decide +kernel
theorem dX7_take_73 : decode cX7_take 73 = .ok (.aload_n 0, 1) := by decide +kernel
theorem dX7_take_74 : decode cX7_take 74 = .ok (.getfield 19, 3) := by decide +kernel
theorem dX7_take_77 : decode cX7_take 77 = .ok (.iload_n 3, 1) := by decide +kernel
theorem dX7_take_78 : decode cX7_take 78 = .ok (.invokevirtual 182, 3) := by decide +kernel
theorem dX7_take_81 : decode cX7_take 81 = .ok (.ifCond .ne 11, 3) := by decide +kernel
theorem dX7_take_84 : decode cX7_take 84 = .ok (.aload_n 0, 1) := by decide +kernel
theorem dX7_take_85 : decode cX7_take 85 = .ok (.getfield 19, 3) := by decide +kernel
theorem dX7_take_88 : decode cX7_take 88 = .ok (.invokevirtual 185, 3) := by decide +kernel
theorem dX7_take_91 : decode cX7_take 91 = .ok (.ireturn, 1) := by decide +kernel
theorem dX7_take_92 : decode cX7_take 92 = .ok (.aload_n 0, 1) := by decide +kernel
theorem dX7_take_93 : decode cX7_take 93 = .ok (.getfield 19, 3) := by decide +kernel
theorem dX7_take_96 : decode cX7_take 96 = .ok (.ldc 188, 2) := by decide +kernel
theorem dX7_take_98 : decode cX7_take 98 = .ok (.iload_n 1, 1) := by decide +kernel
theorem dX7_take_99 : decode cX7_take 99 = .ok (.iconst (-1), 1) := by decide +kernel
theorem dX7_take_100 : decode cX7_take 100 = .ok (.invokevirtual 190, 3) := by decide +kernel
theorem dX7_take_103 : decode cX7_take 103 = .ok (.aload_n 2, 1) := by decide +kernel
theorem dX7_take_104 : decode cX7_take 104 = .ok (.getfield 194, 3) := by decide +kernel
theorem dX7_take_107 : decode cX7_take 107 = .ok (.iload_n 1, 1) := by decide +kernel
theorem dX7_take_108 : decode cX7_take 108 = .ok (.iconst (-1), 1) := by decide +kernel
theorem dX7_take_109 : decode cX7_take 109 = .ok (.invokestatic 47, 3) := by decide +kernel
theorem dX7_take_112 : decode cX7_take 112 = .ok (.aload_n 0, 1) := by decide +kernel
theorem dX7_take_113 : decode cX7_take 113 = .ok (.getfield 19, 3) := by decide +kernel
theorem dX7_take_116 : decode cX7_take 116 = .ok (.iload_n 3, 1) := by decide +kernel
theorem dX7_take_117 : decode cX7_take 117 = .ok (.invokevirtual 197, 3) := by decide +kernel
theorem dX7_take_120 : decode cX7_take 120 = .ok (.aload_n 2, 1) := by decide +kernel
theorem dX7_take_121 : decode cX7_take 121 = .ok (.invokevirtual 172, 3) := by decide +kernel
theorem dX7_take_124 : decode cX7_take 124 = .ok (.ireturn, 1) := by decide +kernel
theorem dX7_lay_0 : decode cX7_lay 0 = .ok (.aload_n 0, 1) := by decide +kernel
theorem dX7_lay_1 : decode cX7_lay 1 = .ok (.getfield 19, 3) := by decide +kernel
theorem dX7_lay_4 : decode cX7_lay 4 = .ok (.getfield 51, 3) := by decide +kernel
theorem dX7_lay_7 : decode cX7_lay 7 = .ok (.astore_n 3, 1) := by decide +kernel
theorem dX7_lay_8 : decode cX7_lay 8 = .ok (.aload_n 3, 1) := by decide +kernel
theorem dX7_lay_9 : decode cX7_lay 9 = .ok (.iload_n 1, 1) := by decide +kernel
theorem dX7_lay_10 : decode cX7_lay 10 = .ok (.invokevirtual 71, 3) := by decide +kernel
theorem dX7_lay_13 : decode cX7_lay 13 = .ok (.ifCond .eq 11, 3) := by decide +kernel
theorem dX7_lay_16 : decode cX7_lay 16 = .ok (.aload_n 3, 1) := by decide +kernel
theorem dX7_lay_17 : decode cX7_lay 17 = .ok (.iload_n 2, 1) := by decide +kernel
theorem dX7_lay_18 : decode cX7_lay 18 = .ok (.invokevirtual 64, 3) := by decide +kernel
theorem dX7_lay_21 : decode cX7_lay 21 = .ok (.ifCond .ne 5, 3) := by decide +kernel
theorem dX7_lay_24 : decode cX7_lay 24 = .ok (.iconst (-1), 1) := by decide +kernel
theorem dX7_lay_25 : decode cX7_lay 25 = .ok (.ireturn, 1) := by decide +kernel
theorem dX7_lay_26 : decode cX7_lay 26 = .ok (.aload_n 0, 1) := by decide +kernel
theorem dX7_lay_27 : decode cX7_lay 27 = .ok (.getfield 19, 3) := by decide +kernel
theorem dX7_lay_30 : decode cX7_lay 30 = .ok (.getfield 74, 3) := by decide +kernel
theorem dX7_lay_33 : decode cX7_lay 33 = .ok (.getfield 78, 3) := by decide +kernel
theorem dX7_lay_36 : decode cX7_lay 36 = .ok (.ifCond .eq 19, 3) := by decide +kernel
theorem dX7_lay_39 : decode cX7_lay 39 = .ok (.aload_n 3, 1) := by decide +kernel
theorem dX7_lay_40 : decode cX7_lay 40 = .ok (.iload_n 1, 1) := by decide +kernel
theorem dX7_lay_41 : decode cX7_lay 41 = .ok (.invokevirtual 166, 3) := by decide +kernel
theorem dX7_lay_44 : decode cX7_lay 44 = .ok (.ifCond .eq 11, 3) := by decide +kernel
theorem dX7_lay_47 : decode cX7_lay 47 = .ok (.aload_n 3, 1) := by decide +kernel
theorem dX7_lay_48 : decode cX7_lay 48 = .ok (.iload_n 2, 1) := by decide +kernel
theorem dX7_lay_49 : decode cX7_lay 49 = .ok (.invokevirtual 200, 3) := by decide +kernel
theorem dX7_lay_52 : decode cX7_lay 52 = .ok (.ifCond .eq 6, 3) := by decide +kernel
theorem dX7_lay_55 : decode cX7_lay 55 = .ok (.bipush (-4), 2) := by decide +kernel
theorem dX7_lay_57 : decode cX7_lay 57 = .ok (.ireturn, 1) := by decide +kernel
theorem dX7_lay_58 : decode cX7_lay 58 = .ok (.iconst 2, 1) := by decide +kernel
theorem dX7_lay_59 : decode cX7_lay 59 = .ok (.aload_n 3, 1) := by decide +kernel
theorem dX7_lay_60 : decode cX7_lay 60 = .ok (.getfield 175, 3) := by decide +kernel
theorem dX7_lay_63 : decode cX7_lay 63 = .ok (.invokestatic 178, 3) := by decide +kernel
theorem dX7_lay_66 : decode cX7_lay 66 = .ok (.istore 4, 2) := by decide +kernel
theorem dX7_lay_68 : decode cX7_lay 68 = .ok (.aload_n 0, 1) := by decide +kernel
theorem dX7_lay_69 : decode cX7_lay 69 = .ok (.getfield 19, 3) := by decide +kernel
theorem dX7_lay_72 : decode cX7_lay 72 = .ok (.iload 4, 2) := by decide +kernel
theorem dX7_lay_74 : decode cX7_lay 74 = .ok (.invokevirtual 182, 3) := by decide +kernel
theorem dX7_lay_77 : decode cX7_lay 77 = .ok (.ifCond .ne 11, 3) := by decide +kernel
theorem dX7_lay_80 : decode cX7_lay 80 = .ok (.aload_n 0, 1) := by decide +kernel
theorem dX7_lay_81 : decode cX7_lay 81 = .ok (.getfield 19, 3) := by decide +kernel
theorem dX7_lay_84 : decode cX7_lay 84 = .ok (.invokevirtual 185, 3) := by decide +kernel
theorem dX7_lay_87 : decode cX7_lay 87 = .ok (.ireturn, 1) := by decide +kernel
theorem dX7_lay_88 : decode cX7_lay 88 = .ok (.aload_n 0, 1) := by decide +kernel
theorem dX7_lay_89 : decode cX7_lay 89 = .ok (.getfield 19, 3) := by decide +kernel
theorem dX7_lay_92 : decode cX7_lay 92 = .ok (.ldc 203, 2) := by decide +kernel
theorem dX7_lay_94 : decode cX7_lay 94 = .ok (.iload_n 1, 1) := by decide +kernel
theorem dX7_lay_95 : decode cX7_lay 95 = .ok (.iload_n 2, 1) := by decide +kernel
theorem dX7_lay_96 : decode cX7_lay 96 = .ok (.invokevirtual 190, 3) := by decide +kernel
theorem dX7_lay_99 : decode cX7_lay 99 = .ok (.aload_n 3, 1) := by decide +kernel
theorem dX7_lay_100 : decode cX7_lay 100 = .ok (.getfield 194, 3) := by decide +kernel
theorem dX7_lay_103 : decode cX7_lay 103 = .ok (.iload_n 1, 1) := by decide +kernel
theorem dX7_lay_104 : decode cX7_lay 104 = .ok (.iload_n 2, 1) := by decide +kernel
theorem dX7_lay_105 : decode cX7_lay 105 = .ok (.invokestatic 47, 3) := by decide +kernel
theorem dX7_lay_108 : decode cX7_lay 108 = .ok (.aload_n 0, 1) := by decide +kernel
theorem dX7_lay_109 : decode cX7_lay 109 = .ok (.getfield 19, 3) := by decide +kernel
theorem dX7_lay_112 : decode cX7_lay 112 = .ok (.iload 4, 2) := by decide +kernel
theorem dX7_lay_114 : decode cX7_lay 114 = .ok (.invokevirtual 197, 3) := by decide +kernel
theorem dX7_lay_117 : decode cX7_lay 117 = .ok (.aload_n 3, 1) := by decide +kernel
theorem dX7_lay_118 : decode cX7_lay 118 = .ok (.invokevirtual 172, 3) := by decide +kernel
theorem dX7_lay_121 : decode cX7_lay 121 = .ok (.ireturn, 1) := by decide +kernel
theorem dX7_open_0 : decode cX7_open 0 = .ok (.aload_n 0, 1) := by decide +kernel
theorem dX7_open_1 : decode cX7_open 1 = .ok (.getfield 19, 3) := by decide +kernel
theorem dX7_open_4 : decode cX7_open 4 = .ok (.getfield 51, 3) := by decide +kernel
theorem dX7_open_7 : decode cX7_open 7 = .ok (.astore_n 3, 1) := by decide +kernel
theorem dX7_open_8 : decode cX7_open 8 = .ok (.aload_n 3, 1) := by decide +kernel
theorem dX7_open_9 : decode cX7_open 9 = .ok (.iload_n 1, 1) := by decide +kernel
theorem dX7_open_10 : decode cX7_open 10 = .ok (.invokevirtual 64, 3) := by decide +kernel
theorem dX7_open_13 : decode cX7_open 13 = .ok (.ifCond .ne 5, 3) := by decide +kernel
theorem dX7_open_16 : decode cX7_open 16 = .ok (.iconst (-1), 1) := by decide +kernel
theorem dX7_open_17 : decode cX7_open 17 = .ok (.ireturn, 1) := by decide +kernel
theorem dX7_open_18 : decode cX7_open 18 = .ok (.aload_n 0, 1) := by decide +kernel
theorem dX7_open_19 : decode cX7_open 19 = .ok (.getfield 19, 3) := by decide +kernel
theorem dX7_open_22 : decode cX7_open 22 = .ok (.getfield 74, 3) := by decide +kernel
theorem dX7_open_25 : decode cX7_open 25 = .ok (.getfield 78, 3) := by decide +kernel
theorem dX7_open_28 : decode cX7_open 28 = .ok (.ifCond .eq 11, 3) := by decide +kernel
theorem dX7_open_31 : decode cX7_open 31 = .ok (.aload_n 3, 1) := by decide +kernel
theorem dX7_open_32 : decode cX7_open 32 = .ok (.iload_n 1, 1) := by decide +kernel
theorem dX7_open_33 : decode cX7_open 33 = .ok (.invokevirtual 205, 3) := by decide +kernel
theorem dX7_open_36 : decode cX7_open 36 = .ok (.ifCond .ne 6, 3) := by decide +kernel
theorem dX7_open_39 : decode cX7_open 39 = .ok (.bipush (-4), 2) := by decide +kernel
theorem dX7_open_41 : decode cX7_open 41 = .ok (.ireturn, 1) := by decide +kernel
theorem dX7_open_42 : decode cX7_open 42 = .ok (.aload_n 3, 1) := by decide +kernel
theorem dX7_open_43 : decode cX7_open 43 = .ok (.iload_n 1, 1) := by decide +kernel
theorem dX7_open_44 : decode cX7_open 44 = .ok (.iconst 2, 1) := by decide +kernel
theorem dX7_open_45 : decode cX7_open 45 = .ok (.invokevirtual 98, 3) := by decide +kernel
theorem dX7_open_48 : decode cX7_open 48 = .ok (.ifCond .eq 19, 3) := by decide +kernel
theorem dX7_open_51 : decode cX7_open 51 = .ok (.aload_n 3, 1) := by decide +kernel
theorem dX7_open_52 : decode cX7_open 52 = .ok (.getfield 208, 3) := by decide +kernel
theorem dX7_open_55 : decode cX7_open 55 = .ok (.iload_n 1, 1) := by decide +kernel
theorem dX7_open_56 : decode cX7_open 56 = .ok (.invokestatic 136, 3) := by decide +kernel
theorem dX7_open_59 : decode cX7_open 59 = .ok (.iload_n 2, 1) := by decide +kernel
theorem dX7_open_60 : decode cX7_open 60 = .ok (.if_icmp .eq 7, 3) := by decide +kernel
theorem dX7_open_63 : decode cX7_open 63 = .ok (.iconst 1, 1) := by decide +kernel
theorem dX7_open_64 : decode cX7_open 64 = .ok (.goto 4, 3) := by decide +kernel
theorem dX7_open_67 : decode cX7_open 67 = .ok (.iconst 0, 1) := by decide +kernel
theorem dX7_open_68 : decode cX7_open 68 = .ok (.istore 4, 2) := by decide +kernel
theorem dX7_open_70 : decode cX7_open 70 = .ok (.iconst 4, 1) := by decide +kernel
theorem dX7_open_71 : decode cX7_open 71 = .ok (.aload_n 3, 1) := by decide +kernel
theorem dX7_open_72 : decode cX7_open 72 = .ok (.getfield 175, 3) := by decide +kernel
theorem dX7_open_75 : decode cX7_open 75 = .ok (.invokestatic 178, 3) := by decide +kernel
theorem dX7_open_78 : decode cX7_open 78 = .ok (.iload 4, 2) := by decide +kernel
theorem dX7_open_80 : decode cX7_open 80 = .ok (.ifCond .eq 7, 3) := by decide +kernel
theorem dX7_open_83 : decode cX7_open 83 = .ok (.iconst 2, 1) := by decide +kernel
theorem dX7_open_84 : decode cX7_open 84 = .ok (.goto 4, 3) := by decide +kernel
theorem dX7_open_87 : decode cX7_open 87 = .ok (.iconst 1, 1) := by decide +kernel
theorem dX7_open_88 : decode cX7_open 88 = .ok (.imul, 1) := by decide +kernel
theorem dX7_open_89 : decode cX7_open 89 = .ok (.istore 5, 2) := by decide +kernel
theorem dX7_open_91 : decode cX7_open 91 = .ok (.aload_n 0, 1) := by decide +kernel
theorem dX7_open_92 : decode cX7_open 92 = .ok (.getfield 19, 3) := by decide +kernel
theorem dX7_open_95 : decode cX7_open 95 = .ok (.iload 5, 2) := by decide +kernel
theorem dX7_open_97 : decode cX7_open 97 = .ok (.invokevirtual 182, 3) := by decide +kernel
theorem dX7_open_100 : decode cX7_open 100 = .ok (.ifCond .ne 11, 3) := by decide +kernel
theorem dX7_open_103 : decode cX7_open 103 = .ok (.aload_n 0, 1) := by decide +kernel
theorem dX7_open_104 : decode cX7_open 104 = .ok (.getfield 19, 3) := by decide +kernel
theorem dX7_open_107 : decode cX7_open 107 = .ok (.invokevirtual 185, 3) := by decide +kernel
theorem dX7_open_110 : decode cX7_open 110 = .ok (.ireturn, 1) := by decide +kernel
theorem dX7_open_111 : decode cX7_open 111 = .ok (.aload_n 0, 1) := by decide +kernel
theorem dX7_open_112 : decode cX7_open 112 = .ok (.getfield 19, 3) := by decide +kernel
theorem dX7_open_115 : decode cX7_open 115 = .ok (.ldc 210, 2) := by decide +kernel
theorem dX7_open_117 : decode cX7_open 117 = .ok (.iload_n 1, 1) := by decide +kernel
theorem dX7_open_118 : decode cX7_open 118 = .ok (.iconst (-1), 1) := by decide +kernel
theorem dX7_open_119 : decode cX7_open 119 = .ok (.invokevirtual 190, 3) := by decide +kernel
theorem dX7_open_122 : decode cX7_open 122 = .ok (.iload 4, 2) := by decide +kernel
theorem dX7_open_124 : decode cX7_open 124 = .ok (.ifCond .eq 30, 3) := by decide +kernel
theorem dX7_open_127 : decode cX7_open 127 = .ok (.aload_n 0, 1) := by decide +kernel
theorem dX7_open_128 : decode cX7_open 128 = .ok (.getfield 19, 3) := by decide +kernel
theorem dX7_open_131 : decode cX7_open 131 = .ok (.getfield 74, 3) := by decide +kernel
theorem dX7_open_134 : decode cX7_open 134 = .ok (.dup, 1) := by decide +kernel
theorem dX7_open_135 : decode cX7_open 135 = .ok (.getfield 212, 3) := by decide +kernel
theorem dX7_open_138 : decode cX7_open 138 = .ok (.iconst 1, 1) := by decide +kernel
theorem dX7_open_139 : decode cX7_open 139 = .ok (.iadd, 1) := by decide +kernel
theorem dX7_open_140 : decode cX7_open 140 = .ok (.putfield 212, 3) := by decide +kernel
theorem dX7_open_143 : decode cX7_open 143 = .ok (.aload_n 0, 1) := by decide +kernel
theorem dX7_open_144 : decode cX7_open 144 = .ok (.getfield 19, 3) := by decide +kernel
theorem dX7_open_147 : decode cX7_open 147 = .ok (.iload 5, 2) := by decide +kernel
theorem dX7_open_149 : decode cX7_open 149 = .ok (.invokevirtual 197, 3) := by decide +kernel
theorem dX7_open_152 : decode cX7_open 152 = .ok (.iconst 0, 1) := by decide +kernel
theorem dX7_open_153 : decode cX7_open 153 = .ok (.ireturn, 1) := by decide +kernel
theorem dX7_open_154 : decode cX7_open 154 = .ok (.aload_n 3, 1) := by decide +kernel
theorem dX7_open_155 : decode cX7_open 155 = .ok (.getfield 215, 3) := by decide +kernel
theorem dX7_open_158 : decode cX7_open 158 = .ok (.iload_n 1, 1) := by decide +kernel
theorem dX7_open_159 : decode cX7_open 159 = .ok (.iconst 1, 1) := by decide +kernel
theorem dX7_open_160 : decode cX7_open 160 = .ok (.invokestatic 47, 3) := by decide +kernel
theorem dX7_open_163 : decode cX7_open 163 = .ok (.aload_n 0, 1) := by decide +kernel
theorem dX7_open_164 : decode cX7_open 164 = .ok (.getfield 19, 3) := by decide +kernel
theorem dX7_open_167 : decode cX7_open 167 = .ok (.iload 5, 2) := by decide +kernel
theorem dX7_open_169 : decode cX7_open 169 = .ok (.invokevirtual 197, 3) := by decide +kernel
theorem dX7_open_172 : decode cX7_open 172 = .ok (.iload_n 1, 1) := by decide +kernel
theorem dX7_open_173 : decode cX7_open 173 = .ok (.aload_n 3, 1) := by decide +kernel
theorem dX7_open_174 : decode cX7_open 174 = .ok (.getfield 108, 3) := by decide +kernel
theorem dX7_open_177 : decode cX7_open 177 = .ok (.if_icmp .eq 5, 3) := by decide +kernel
theorem dX7_open_180 : decode cX7_open 180 = .ok (.iconst 1, 1) := by decide +kernel
theorem dX7_open_181 : decode cX7_open 181 = .ok (.ireturn, 1) := by decide +kernel
theorem dX7_open_182 : decode cX7_open 182 = .ok (.aload_n 0, 1) := by decide +kernel
theorem dX7_open_183 : decode cX7_open 183 = .ok (.getfield 19, 3) := by decide +kernel
theorem dX7_open_186 : decode cX7_open 186 = .ok (.iconst 1, 1) := by decide +kernel
theorem dX7_open_187 : decode cX7_open 187 = .ok (.invokevirtual 218, 3) := by decide +kernel
theorem dX7_open_190 : decode cX7_open 190 = .ok (.iconst 2, 1) := by decide +kernel
theorem dX7_open_191 : decode cX7_open 191 = .ok (.ireturn, 1) := by decide +kernel
theorem dX7_read_0 : decode cX7_read 0 = .ok (.aload_n 0, 1) := by decide +kernel
theorem dX7_read_1 : decode cX7_read 1 = .ok (.getfield 19, 3) := by decide +kernel
theorem dX7_read_4 : decode cX7_read 4 = .ok (.getfield 51, 3) := by decide +kernel
theorem dX7_read_7 : decode cX7_read 7 = .ok (.astore_n 2, 1) := by decide +kernel
theorem dX7_read_8 : decode cX7_read 8 = .ok (.aload_n 2, 1) := by decide +kernel
theorem dX7_read_9 : decode cX7_read 9 = .ok (.iload_n 1, 1) := by decide +kernel
theorem dX7_read_10 : decode cX7_read 10 = .ok (.invokevirtual 222, 3) := by decide +kernel
theorem dX7_read_13 : decode cX7_read 13 = .ok (.ifCond .ne 5, 3) := by decide +kernel
theorem dX7_read_16 : decode cX7_read 16 = .ok (.iconst (-1), 1) := by decide +kernel
theorem dX7_read_17 : decode cX7_read 17 = .ok (.ireturn, 1) := by decide +kernel
theorem dX7_read_18 : decode cX7_read 18 = .ok (.aload_n 0, 1) := by decide +kernel
theorem dX7_read_19 : decode cX7_read 19 = .ok (.getfield 19, 3) := by decide +kernel
theorem dX7_read_22 : decode cX7_read 22 = .ok (.getfield 74, 3) := by decide +kernel
theorem dX7_read_25 : decode cX7_read 25 = .ok (.getfield 78, 3) := by decide +kernel
theorem dX7_read_28 : decode cX7_read 28 = .ok (.ifCond .eq 11, 3) := by decide +kernel
theorem dX7_read_31 : decode cX7_read 31 = .ok (.aload_n 2, 1) := by decide +kernel
theorem dX7_read_32 : decode cX7_read 32 = .ok (.iload_n 1, 1) := by decide +kernel
theorem dX7_read_33 : decode cX7_read 33 = .ok (.invokevirtual 225, 3) := by decide +kernel
theorem dX7_read_36 : decode cX7_read 36 = .ok (.ifCond .ne 6, 3) := by decide +kernel
theorem dX7_read_39 : decode cX7_read 39 = .ok (.bipush (-4), 2) := by decide +kernel
theorem dX7_read_41 : decode cX7_read 41 = .ok (.ireturn, 1) := by decide +kernel
theorem dX7_read_42 : decode cX7_read 42 = .ok (.aload_n 2, 1) := by decide +kernel
theorem dX7_read_43 : decode cX7_read 43 = .ok (.getfield 228, 3) := by decide +kernel
theorem dX7_read_46 : decode cX7_read 46 = .ok (.iload_n 1, 1) := by decide +kernel
theorem dX7_read_47 : decode cX7_read 47 = .ok (.invokestatic 136, 3) := by decide +kernel
theorem dX7_read_50 : decode cX7_read 50 = .ok (.ifCond .ne 6, 3) := by decide +kernel
theorem dX7_read_53 : decode cX7_read 53 = .ok (.bipush (-5), 2) := by decide +kernel
theorem dX7_read_55 : decode cX7_read 55 = .ok (.ireturn, 1) := by decide +kernel
theorem dX7_read_56 : decode cX7_read 56 = .ok (.aload_n 2, 1) := by decide +kernel
theorem dX7_read_57 : decode cX7_read 57 = .ok (.iload_n 1, 1) := by decide +kernel
theorem dX7_read_58 : decode cX7_read 58 = .ok (.invokevirtual 231, 3) := by decide +kernel
theorem dX7_read_61 : decode cX7_read 61 = .ok (.istore_n 3, 1) := by decide +kernel
theorem dX7_read_62 : decode cX7_read 62 = .ok (.aload_n 0, 1) := by decide +kernel
theorem dX7_read_63 : decode cX7_read 63 = .ok (.getfield 19, 3) := by decide +kernel
theorem dX7_read_66 : decode cX7_read 66 = .ok (.iload_n 3, 1) := by decide +kernel
theorem dX7_read_67 : decode cX7_read 67 = .ok (.invokevirtual 182, 3) := by decide +kernel
theorem dX7_read_70 : decode cX7_read 70 = .ok (.ifCond .ne 11, 3) := by decide +kernel
theorem dX7_read_73 : decode cX7_read 73 = .ok (.aload_n 0, 1) := by decide +kernel
theorem dX7_read_74 : decode cX7_read 74 = .ok (.getfield 19, 3) := by decide +kernel
theorem dX7_read_77 : decode cX7_read 77 = .ok (.invokevirtual 185, 3) := by decide +kernel
theorem dX7_read_80 : decode cX7_read 80 = .ok (.ireturn, 1) := by decide +kernel
theorem dX7_read_81 : decode cX7_read 81 = .ok (.aload_n 0, 1) := by decide +kernel
theorem dX7_read_82 : decode cX7_read 82 = .ok (.getfield 19, 3) := by decide +kernel
theorem dX7_read_85 : decode cX7_read 85 = .ok (.ldc 234, 2) := by decide +kernel
theorem dX7_read_87 : decode cX7_read 87 = .ok (.iload_n 1, 1) := by decide +kernel
theorem dX7_read_88 : decode cX7_read 88 = .ok (.iconst (-1), 1) := by decide +kernel
theorem dX7_read_89 : decode cX7_read 89 = .ok (.invokevirtual 190, 3) := by decide +kernel
theorem dX7_read_92 : decode cX7_read 92 = .ok (.aload_n 2, 1) := by decide +kernel
theorem dX7_read_93 : decode cX7_read 93 = .ok (.iload_n 1, 1) := by decide +kernel
theorem dX7_read_94 : decode cX7_read 94 = .ok (.invokevirtual 236, 3) := by decide +kernel
theorem dX7_read_97 : decode cX7_read 97 = .ok (.aload_n 0, 1) := by decide +kernel
theorem dX7_read_98 : decode cX7_read 98 = .ok (.getfield 19, 3) := by decide +kernel
theorem dX7_read_101 : decode cX7_read 101 = .ok (.iload_n 3, 1) := by decide +kernel
theorem dX7_read_102 : decode cX7_read 102 = .ok (.invokevirtual 197, 3) := by decide +kernel
theorem dX7_read_105 : decode cX7_read 105 = .ok (.aload_n 2, 1) := by decide +kernel
theorem dX7_read_106 : decode cX7_read 106 = .ok (.iload_n 1, 1) := by decide +kernel
theorem dX7_read_107 : decode cX7_read 107 = .ok (.invokevirtual 239, 3) := by decide +kernel
theorem dX7_read_110 : decode cX7_read 110 = .ok (.ireturn, 1) := by decide +kernel
theorem dX7_rest_0 : decode cX7_rest 0 = .ok (.iload_n 1, 1) := by decide +kernel
theorem dX7_rest_1 : decode cX7_rest 1 = .ok (.iconst 1, 1) := by decide +kernel
theorem dX7_rest_2 : decode cX7_rest 2 = .ok (.if_icmp .lt 9, 3) := by decide +kernel
theorem dX7_rest_5 : decode cX7_rest 5 = .ok (.iload_n 1, 1) := by decide +kernel
theorem dX7_rest_6 : decode cX7_rest 6 = .ok (.bipush 60, 2) := by decide +kernel
theorem dX7_rest_8 : decode cX7_rest 8 = .ok (.if_icmp .le 6, 3) := by decide +kernel
theorem dX7_rest_11 : decode cX7_rest 11 = .ok (.bipush (-2), 2) := by decide +kernel
theorem dX7_rest_13 : decode cX7_rest 13 = .ok (.ireturn, 1) := by decide +kernel
theorem dX7_rest_14 : decode cX7_rest 14 = .ok (.aload_n 0, 1) := by decide +kernel
theorem dX7_rest_15 : decode cX7_rest 15 = .ok (.getfield 19, 3) := by decide +kernel
theorem dX7_rest_18 : decode cX7_rest 18 = .ok (.getfield 74, 3) := by decide +kernel
theorem dX7_rest_21 : decode cX7_rest 21 = .ok (.getfield 78, 3) := by decide +kernel
theorem dX7_rest_24 : decode cX7_rest 24 = .ok (.ifCond .ne 6, 3) := by decide +kernel
theorem dX7_rest_27 : decode cX7_rest 27 = .ok (.bipush (-4), 2) := by decide +kernel
theorem dX7_rest_29 : decode cX7_rest 29 = .ok (.ireturn, 1) := by decide +kernel
theorem dX7_rest_30 : decode cX7_rest 30 = .ok (.aload_n 0, 1) := by decide +kernel
theorem dX7_rest_31 : decode cX7_rest 31 = .ok (.getfield 19, 3) := by decide +kernel
theorem dX7_rest_34 : decode cX7_rest 34 = .ok (.iload_n 1, 1) := by decide +kernel
theorem dX7_rest_35 : decode cX7_rest 35 = .ok (.invokevirtual 182, 3) := by decide +kernel
theorem dX7_rest_38 : decode cX7_rest 38 = .ok (.ifCond .ne 11, 3) := by decide +kernel
theorem dX7_rest_41 : decode cX7_rest 41 = .ok (.aload_n 0, 1) := by decide +kernel
theorem dX7_rest_42 : decode cX7_rest 42 = .ok (.getfield 19, 3) := by decide +kernel
theorem dX7_rest_45 : decode cX7_rest 45 = .ok (.invokevirtual 185, 3) := by decide +kernel
theorem dX7_rest_48 : decode cX7_rest 48 = .ok (.ireturn, 1) := by decide +kernel
theorem dX7_rest_49 : decode cX7_rest 49 = .ok (.aload_n 0, 1) := by decide +kernel
theorem dX7_rest_50 : decode cX7_rest 50 = .ok (.getfield 19, 3) := by decide +kernel
theorem dX7_rest_53 : decode cX7_rest 53 = .ok (.ldc 242, 2) := by decide +kernel
theorem dX7_rest_55 : decode cX7_rest 55 = .ok (.iload_n 1, 1) := by decide +kernel
theorem dX7_rest_56 : decode cX7_rest 56 = .ok (.iconst (-1), 1) := by decide +kernel
theorem dX7_rest_57 : decode cX7_rest 57 = .ok (.invokevirtual 190, 3) := by decide +kernel
theorem dX7_rest_60 : decode cX7_rest 60 = .ok (.aload_n 0, 1) := by decide +kernel
theorem dX7_rest_61 : decode cX7_rest 61 = .ok (.getfield 19, 3) := by decide +kernel
theorem dX7_rest_64 : decode cX7_rest 64 = .ok (.iload_n 1, 1) := by decide +kernel
theorem dX7_rest_65 : decode cX7_rest 65 = .ok (.invokevirtual 197, 3) := by decide +kernel
theorem dX7_rest_68 : decode cX7_rest 68 = .ok (.aload_n 0, 1) := by decide +kernel
theorem dX7_rest_69 : decode cX7_rest 69 = .ok (.getfield 19, 3) := by decide +kernel
theorem dX7_rest_72 : decode cX7_rest 72 = .ok (.invokevirtual 244, 3) := by decide +kernel
theorem dX7_rest_75 : decode cX7_rest 75 = .ok (.ireturn, 1) := by decide +kernel
theorem dX7_nudge_0 : decode cX7_nudge 0 = .ok (.aload_n 0, 1) := by decide +kernel
theorem dX7_nudge_1 : decode cX7_nudge 1 = .ok (.getfield 19, 3) := by decide +kernel
theorem dX7_nudge_4 : decode cX7_nudge 4 = .ok (.getfield 74, 3) := by decide +kernel
theorem dX7_nudge_7 : decode cX7_nudge 7 = .ok (.getfield 78, 3) := by decide +kernel
theorem dX7_nudge_10 : decode cX7_nudge 10 = .ok (.ifCond .ne 6, 3) := by decide +kernel
theorem dX7_nudge_13 : decode cX7_nudge 13 = .ok (.bipush (-4), 2) := by decide +kernel
theorem dX7_nudge_15 : decode cX7_nudge 15 = .ok (.ireturn, 1) := by decide +kernel
theorem dX7_nudge_16 : decode cX7_nudge 16 = .ok (.aload_n 0, 1) := by decide +kernel
theorem dX7_nudge_17 : decode cX7_nudge 17 = .ok (.getfield 19, 3) := by decide +kernel
theorem dX7_nudge_20 : decode cX7_nudge 20 = .ok (.getfield 74, 3) := by decide +kernel
theorem dX7_nudge_23 : decode cX7_nudge 23 = .ok (.getfield 247, 3) := by decide +kernel
theorem dX7_nudge_26 : decode cX7_nudge 26 = .ok (.aload_n 0, 1) := by decide +kernel
theorem dX7_nudge_27 : decode cX7_nudge 27 = .ok (.getfield 19, 3) := by decide +kernel
theorem dX7_nudge_30 : decode cX7_nudge 30 = .ok (.getfield 114, 3) := by decide +kernel
theorem dX7_nudge_33 : decode cX7_nudge 33 = .ok (.if_icmp .lt 6, 3) := by decide +kernel
theorem dX7_nudge_36 : decode cX7_nudge 36 = .ok (.bipush (-3), 2) := by decide +kernel
theorem dX7_nudge_38 : decode cX7_nudge 38 = .ok (.ireturn, 1) := by decide +kernel
theorem dX7_nudge_39 : decode cX7_nudge 39 = .ok (.aload_n 0, 1) := by decide +kernel
theorem dX7_nudge_40 : decode cX7_nudge 40 = .ok (.getfield 19, 3) := by decide +kernel
theorem dX7_nudge_43 : decode cX7_nudge 43 = .ok (.getfield 51, 3) := by decide +kernel
theorem dX7_nudge_46 : decode cX7_nudge 46 = .ok (.aload_n 0, 1) := by decide +kernel
theorem dX7_nudge_47 : decode cX7_nudge 47 = .ok (.getfield 19, 3) := by decide +kernel
theorem dX7_nudge_50 : decode cX7_nudge 50 = .ok (.getfield 51, 3) := by decide +kernel
theorem dX7_nudge_53 : decode cX7_nudge 53 = .ok (.getfield 108, 3) := by decide +kernel
theorem dX7_nudge_56 : decode cX7_nudge 56 = .ok (.invokevirtual 250, 3) := by decide +kernel
theorem dX7_nudge_59 : decode cX7_nudge 59 = .ok (.istore_n 1, 1) := by decide +kernel
theorem dX7_nudge_60 : decode cX7_nudge 60 = .ok (.iload_n 1, 1) := by decide +kernel
theorem dX7_nudge_61 : decode cX7_nudge 61 = .ok (.bipush (-5), 2) := by decide +kernel
theorem dX7_nudge_63 : decode cX7_nudge 63 = .ok (.if_icmp .ne 6, 3) := by decide +kernel
theorem dX7_nudge_66 : decode cX7_nudge 66 = .ok (.bipush (-5), 2) := by decide +kernel
theorem dX7_nudge_68 : decode cX7_nudge 68 = .ok (.ireturn, 1) := by decide +kernel
theorem dX7_nudge_69 : decode cX7_nudge 69 = .ok (.aload_n 0, 1) := by decide +kernel
theorem dX7_nudge_70 : decode cX7_nudge 70 = .ok (.getfield 19, 3) := by decide +kernel
theorem dX7_nudge_73 : decode cX7_nudge 73 = .ok (.iconst 2, 1) := by decide +kernel
theorem dX7_nudge_74 : decode cX7_nudge 74 = .ok (.invokevirtual 182, 3) := by decide +kernel
theorem dX7_nudge_77 : decode cX7_nudge 77 = .ok (.ifCond .ne 11, 3) := by decide +kernel
theorem dX7_nudge_80 : decode cX7_nudge 80 = .ok (.aload_n 0, 1) := by decide +kernel
theorem dX7_nudge_81 : decode cX7_nudge 81 = .ok (.getfield 19, 3) := by decide +kernel
theorem dX7_nudge_84 : decode cX7_nudge 84 = .ok (.invokevirtual 185, 3) := by decide +kernel
theorem dX7_nudge_87 : decode cX7_nudge 87 = .ok (.ireturn, 1) := by decide +kernel
theorem dX7_nudge_88 : decode cX7_nudge 88 = .ok (.aload_n 0, 1) := by decide +kernel
theorem dX7_nudge_89 : decode cX7_nudge 89 = .ok (.getfield 19, 3) := by decide +kernel
theorem dX7_nudge_92 : decode cX7_nudge 92 = .ok (.ldc 253, 2) := by decide +kernel
theorem dX7_nudge_94 : decode cX7_nudge 94 = .ok (.iload_n 1, 1) := by decide +kernel
theorem dX7_nudge_95 : decode cX7_nudge 95 = .ok (.invokestatic 255, 3) := by decide +kernel
theorem dX7_nudge_98 : decode cX7_nudge 98 = .ok (.iconst (-1), 1) := by decide +kernel
theorem dX7_nudge_99 : decode cX7_nudge 99 = .ok (.invokevirtual 190, 3) := by decide +kernel
theorem dX7_nudge_102 : decode cX7_nudge 102 = .ok (.aload_n 0, 1) := by decide +kernel
theorem dX7_nudge_103 : decode cX7_nudge 103 = .ok (.getfield 19, 3) := by decide +kernel
theorem dX7_nudge_106 : decode cX7_nudge 106 = .ok (.getfield 74, 3) := by decide +kernel
theorem dX7_nudge_109 : decode cX7_nudge 109 = .ok (.dup, 1) := by decide +kernel
theorem dX7_nudge_110 : decode cX7_nudge 110 = .ok (.getfield 247, 3) := by decide +kernel
theorem dX7_nudge_113 : decode cX7_nudge 113 = .ok (.iconst 1, 1) := by decide +kernel
theorem dX7_nudge_114 : decode cX7_nudge 114 = .ok (.iadd, 1) := by decide +kernel
theorem dX7_nudge_115 : decode cX7_nudge 115 = .ok (.putfield 247, 3) := by decide +kernel
theorem dX7_nudge_118 : decode cX7_nudge 118 = .ok (.iload_n 1, 1) := by decide +kernel
theorem dX7_nudge_119 : decode cX7_nudge 119 = .ok (.invokestatic 258, 3) := by decide +kernel
theorem dX7_nudge_122 : decode cX7_nudge 122 = .ok (.sipush 500, 3) := by decide +kernel
theorem dX7_nudge_125 : decode cX7_nudge 125 = .ok (.if_icmp .ne 22, 3) := by decide +kernel
theorem dX7_nudge_128 : decode cX7_nudge 128 = .ok (.aload_n 0, 1) := by decide +kernel
theorem dX7_nudge_129 : decode cX7_nudge 129 = .ok (.getfield 19, 3) := by decide +kernel
theorem dX7_nudge_132 : decode cX7_nudge 132 = .ok (.getfield 51, 3) := by decide +kernel
theorem dX7_nudge_135 : decode cX7_nudge 135 = .ok (.iload_n 1, 1) := by decide +kernel
theorem dX7_nudge_136 : decode cX7_nudge 136 = .ok (.sipush 1000, 3) := by decide +kernel
theorem dX7_nudge_139 : decode cX7_nudge 139 = .ok (.idiv, 1) := by decide +kernel
theorem dX7_nudge_140 : decode cX7_nudge 140 = .ok (.iload_n 1, 1) := by decide +kernel
theorem dX7_nudge_141 : decode cX7_nudge 141 = .ok (.bipush 100, 2) := by decide +kernel
theorem dX7_nudge_143 : decode cX7_nudge 143 = .ok (.irem, 1) := by decide +kernel
theorem dX7_nudge_144 : decode cX7_nudge 144 = .ok (.invokevirtual 261, 3) := by decide +kernel
theorem dX7_nudge_147 : decode cX7_nudge 147 = .ok (.aload_n 0, 1) := by decide +kernel
theorem dX7_nudge_148 : decode cX7_nudge 148 = .ok (.getfield 19, 3) := by decide +kernel
theorem dX7_nudge_151 : decode cX7_nudge 151 = .ok (.iconst 2, 1) := by decide +kernel
theorem dX7_nudge_152 : decode cX7_nudge 152 = .ok (.invokevirtual 197, 3) := by decide +kernel
theorem dX7_nudge_155 : decode cX7_nudge 155 = .ok (.iload_n 1, 1) := by decide +kernel
theorem dX7_nudge_156 : decode cX7_nudge 156 = .ok (.invokestatic 255, 3) := by decide +kernel
theorem dX7_nudge_159 : decode cX7_nudge 159 = .ok (.ireturn, 1) := by decide +kernel
theorem dX7_giveUp_0 : decode cX7_giveUp 0 = .ok (.aload_n 0, 1) := by decide +kernel
theorem dX7_giveUp_1 : decode cX7_giveUp 1 = .ok (.getfield 19, 3) := by decide +kernel
theorem dX7_giveUp_4 : decode cX7_giveUp 4 = .ok (.getfield 74, 3) := by decide +kernel
theorem dX7_giveUp_7 : decode cX7_giveUp 7 = .ok (.getfield 78, 3) := by decide +kernel
theorem dX7_giveUp_10 : decode cX7_giveUp 10 = .ok (.ifCond .ne 6, 3) := by decide +kernel
theorem dX7_giveUp_13 : decode cX7_giveUp 13 = .ok (.bipush (-4), 2) := by decide +kernel
theorem dX7_giveUp_15 : decode cX7_giveUp 15 = .ok (.ireturn, 1) := by decide +kernel
theorem dX7_giveUp_16 : decode cX7_giveUp 16 = .ok (.aload_n 0, 1) := by decide +kernel
theorem dX7_giveUp_17 : decode cX7_giveUp 17 = .ok (.getfield 19, 3) := by decide +kernel
theorem dX7_giveUp_20 : decode cX7_giveUp 20 = .ok (.invokevirtual 264, 3) := by decide +kernel
theorem dX7_giveUp_23 : decode cX7_giveUp 23 = .ok (.istore_n 1, 1) := by decide +kernel
theorem dX7_giveUp_24 : decode cX7_giveUp 24 = .ok (.aload_n 0, 1) := by decide +kernel
theorem dX7_giveUp_25 : decode cX7_giveUp 25 = .ok (.getfield 19, 3) := by decide +kernel
theorem dX7_giveUp_28 : decode cX7_giveUp 28 = .ok (.ldc_w 267, 3) := by decide +kernel
theorem dX7_giveUp_31 : decode cX7_giveUp 31 = .ok (.iconst (-1), 1) := by decide +kernel
theorem dX7_giveUp_32 : decode cX7_giveUp 32 = .ok (.iconst (-1), 1) := by decide +kernel
theorem dX7_giveUp_33 : decode cX7_giveUp 33 = .ok (.invokevirtual 190, 3) := by decide +kernel
theorem dX7_giveUp_36 : decode cX7_giveUp 36 = .ok (.aload_n 0, 1) := by decide +kernel
theorem dX7_giveUp_37 : decode cX7_giveUp 37 = .ok (.getfield 19, 3) := by decide +kernel
theorem dX7_giveUp_40 : decode cX7_giveUp 40 = .ok (.iconst 0, 1) := by decide +kernel
theorem dX7_giveUp_41 : decode cX7_giveUp 41 = .ok (.invokevirtual 218, 3) := by decide +kernel
theorem dX7_giveUp_44 : decode cX7_giveUp 44 = .ok (.iload_n 1, 1) := by decide +kernel
theorem dX7_giveUp_45 : decode cX7_giveUp 45 = .ok (.ireturn, 1) := by decide +kernel
theorem dX7_idle_0 : decode cX7_idle 0 = .ok (.iload_n 1, 1) := by decide +kernel
theorem dX7_idle_1 : decode cX7_idle 1 = .ok (.iconst 1, 1) := by decide +kernel
theorem dX7_idle_2 : decode cX7_idle 2 = .ok (.if_icmp .lt 10, 3) := by decide +kernel
theorem dX7_idle_5 : decode cX7_idle 5 = .ok (.iload_n 1, 1) := by decide +kernel
theorem dX7_idle_6 : decode cX7_idle 6 = .ok (.sipush 1000, 3) := by decide +kernel
theorem dX7_idle_9 : decode cX7_idle 9 = .ok (.if_icmp .le 6, 3) := by decide +kernel
theorem dX7_idle_12 : decode cX7_idle 12 = .ok (.bipush (-2), 2) := by decide +kernel
theorem dX7_idle_14 : decode cX7_idle 14 = .ok (.ireturn, 1) := by decide +kernel
theorem dX7_idle_15 : decode cX7_idle 15 = .ok (.aload_n 0, 1) := by decide +kernel
theorem dX7_idle_16 : decode cX7_idle 16 = .ok (.getfield 19, 3) := by decide +kernel
theorem dX7_idle_19 : decode cX7_idle 19 = .ok (.getfield 74, 3) := by decide +kernel
theorem dX7_idle_22 : decode cX7_idle 22 = .ok (.getfield 78, 3) := by decide +kernel
theorem dX7_idle_25 : decode cX7_idle 25 = .ok (.ifCond .eq 6, 3) := by decide +kernel
theorem dX7_idle_28 : decode cX7_idle 28 = .ok (.bipush (-4), 2) := by decide +kernel
theorem dX7_idle_30 : decode cX7_idle 30 = .ok (.ireturn, 1) := by decide +kernel
theorem dX7_idle_31 : decode cX7_idle 31 = .ok (.aload_n 0, 1) := by decide +kernel
theorem dX7_idle_32 : decode cX7_idle 32 = .ok (.getfield 19, 3) := by decide +kernel
theorem dX7_idle_35 : decode cX7_idle 35 = .ok (.iload_n 1, 1) := by decide +kernel
theorem dX7_idle_36 : decode cX7_idle 36 = .ok (.invokevirtual 197, 3) := by decide +kernel
theorem dX7_idle_39 : decode cX7_idle 39 = .ok (.aload_n 0, 1) := by decide +kernel
theorem dX7_idle_40 : decode cX7_idle 40 = .ok (.getfield 19, 3) := by decide +kernel
theorem dX7_idle_43 : decode cX7_idle 43 = .ok (.getfield 269, 3) := by decide +kernel
theorem dX7_idle_46 : decode cX7_idle 46 = .ok (.ireturn, 1) := by decide +kernel
theorem dX7_putHome_0 : decode cX7_putHome 0 = .ok (.aload_n 0, 1) := by decide +kernel
theorem dX7_putHome_1 : decode cX7_putHome 1 = .ok (.getfield 19, 3) := by decide +kernel
theorem dX7_putHome_4 : decode cX7_putHome 4 = .ok (.getfield 51, 3) := by decide +kernel
theorem dX7_putHome_7 : decode cX7_putHome 7 = .ok (.astore_n 2, 1) := by decide +kernel
theorem dX7_putHome_8 : decode cX7_putHome 8 = .ok (.aload_n 2, 1) := by decide +kernel
theorem dX7_putHome_9 : decode cX7_putHome 9 = .ok (.iload_n 1, 1) := by decide +kernel
theorem dX7_putHome_10 : decode cX7_putHome 10 = .ok (.invokevirtual 71, 3) := by decide +kernel
theorem dX7_putHome_13 : decode cX7_putHome 13 = .ok (.ifCond .ne 5, 3) := by decide +kernel
theorem dX7_putHome_16 : decode cX7_putHome 16 = .ok (.iconst (-1), 1) := by decide +kernel
theorem dX7_putHome_17 : decode cX7_putHome 17 = .ok (.ireturn, 1) := by decide +kernel
theorem dX7_putHome_18 : decode cX7_putHome 18 = .ok (.aload_n 0, 1) := by decide +kernel
theorem dX7_putHome_19 : decode cX7_putHome 19 = .ok (.getfield 19, 3) := by decide +kernel
theorem dX7_putHome_22 : decode cX7_putHome 22 = .ok (.getfield 74, 3) := by decide +kernel
theorem dX7_putHome_25 : decode cX7_putHome 25 = .ok (.getfield 78, 3) := by decide +kernel
theorem dX7_putHome_28 : decode cX7_putHome 28 = .ok (.ifCond .eq 6, 3) := by decide +kernel
theorem dX7_putHome_31 : decode cX7_putHome 31 = .ok (.bipush (-4), 2) := by decide +kernel
theorem dX7_putHome_33 : decode cX7_putHome 33 = .ok (.ireturn, 1) := by decide +kernel
theorem dX7_putHome_34 : decode cX7_putHome 34 = .ok (.aload_n 2, 1) := by decide +kernel
theorem dX7_putHome_35 : decode cX7_putHome 35 = .ok (.getfield 194, 3) := by decide +kernel
theorem dX7_putHome_38 : decode cX7_putHome 38 = .ok (.iload_n 1, 1) := by decide +kernel
theorem dX7_putHome_39 : decode cX7_putHome 39 = .ok (.invokestatic 136, 3) := by decide +kernel
theorem dX7_putHome_42 : decode cX7_putHome 42 = .ok (.istore_n 3, 1) := by decide +kernel
theorem dX7_putHome_43 : decode cX7_putHome 43 = .ok (.iload_n 3, 1) := by decide +kernel
theorem dX7_putHome_44 : decode cX7_putHome 44 = .ok (.aload_n 2, 1) := by decide +kernel
theorem dX7_putHome_45 : decode cX7_putHome 45 = .ok (.getfield 272, 3) := by decide +kernel
theorem dX7_putHome_48 : decode cX7_putHome 48 = .ok (.iload_n 1, 1) := by decide +kernel
theorem dX7_putHome_49 : decode cX7_putHome 49 = .ok (.invokestatic 136, 3) := by decide +kernel
theorem dX7_putHome_52 : decode cX7_putHome 52 = .ok (.if_icmp .ne 6, 3) := by decide +kernel
theorem dX7_putHome_55 : decode cX7_putHome 55 = .ok (.bipush (-5), 2) := by decide +kernel
theorem dX7_putHome_57 : decode cX7_putHome 57 = .ok (.ireturn, 1) := by decide +kernel
theorem dX7_putHome_58 : decode cX7_putHome 58 = .ok (.aload_n 2, 1) := by decide +kernel
theorem dX7_putHome_59 : decode cX7_putHome 59 = .ok (.getfield 194, 3) := by decide +kernel
theorem dX7_putHome_62 : decode cX7_putHome 62 = .ok (.iload_n 1, 1) := by decide +kernel
theorem dX7_putHome_63 : decode cX7_putHome 63 = .ok (.aload_n 2, 1) := by decide +kernel
theorem dX7_putHome_64 : decode cX7_putHome 64 = .ok (.getfield 272, 3) := by decide +kernel
theorem dX7_putHome_67 : decode cX7_putHome 67 = .ok (.iload_n 1, 1) := by decide +kernel
theorem dX7_putHome_68 : decode cX7_putHome 68 = .ok (.invokestatic 136, 3) := by decide +kernel
theorem dX7_putHome_71 : decode cX7_putHome 71 = .ok (.invokestatic 47, 3) := by decide +kernel
theorem dX7_putHome_74 : decode cX7_putHome 74 = .ok (.aload_n 0, 1) := by decide +kernel
theorem dX7_putHome_75 : decode cX7_putHome 75 = .ok (.getfield 19, 3) := by decide +kernel
theorem dX7_putHome_78 : decode cX7_putHome 78 = .ok (.iconst 1, 1) := by decide +kernel
theorem dX7_putHome_79 : decode cX7_putHome 79 = .ok (.invokevirtual 197, 3) := by decide +kernel
theorem dX7_putHome_82 : decode cX7_putHome 82 = .ok (.iload_n 3, 1) := by decide +kernel
theorem dX7_putHome_83 : decode cX7_putHome 83 = .ok (.ireturn, 1) := by decide +kernel
theorem dX7_close_0 : decode cX7_close 0 = .ok (.aload_n 0, 1) := by decide +kernel
theorem dX7_close_1 : decode cX7_close 1 = .ok (.getfield 19, 3) := by decide +kernel
theorem dX7_close_4 : decode cX7_close 4 = .ok (.getfield 51, 3) := by decide +kernel
theorem dX7_close_7 : decode cX7_close 7 = .ok (.astore_n 2, 1) := by decide +kernel
theorem dX7_close_8 : decode cX7_close 8 = .ok (.aload_n 2, 1) := by decide +kernel
theorem dX7_close_9 : decode cX7_close 9 = .ok (.iload_n 1, 1) := by decide +kernel
theorem dX7_close_10 : decode cX7_close 10 = .ok (.invokevirtual 64, 3) := by decide +kernel
theorem dX7_close_13 : decode cX7_close 13 = .ok (.ifCond .ne 5, 3) := by decide +kernel
theorem dX7_close_16 : decode cX7_close 16 = .ok (.iconst (-1), 1) := by decide +kernel
theorem dX7_close_17 : decode cX7_close 17 = .ok (.ireturn, 1) := by decide +kernel
theorem dX7_close_18 : decode cX7_close 18 = .ok (.iload_n 1, 1) := by decide +kernel
theorem dX7_close_19 : decode cX7_close 19 = .ok (.ifCond .ne 6, 3) := by decide +kernel
theorem dX7_close_22 : decode cX7_close 22 = .ok (.bipush (-2), 2) := by decide +kernel
theorem dX7_close_24 : decode cX7_close 24 = .ok (.ireturn, 1) := by decide +kernel
theorem dX7_close_25 : decode cX7_close 25 = .ok (.aload_n 0, 1) := by decide +kernel
theorem dX7_close_26 : decode cX7_close 26 = .ok (.getfield 19, 3) := by decide +kernel
theorem dX7_close_29 : decode cX7_close 29 = .ok (.getfield 74, 3) := by decide +kernel
theorem dX7_close_32 : decode cX7_close 32 = .ok (.getfield 78, 3) := by decide +kernel
theorem dX7_close_35 : decode cX7_close 35 = .ok (.ifCond .eq 6, 3) := by decide +kernel
theorem dX7_close_38 : decode cX7_close 38 = .ok (.bipush (-4), 2) := by decide +kernel
theorem dX7_close_40 : decode cX7_close 40 = .ok (.ireturn, 1) := by decide +kernel
theorem dX7_close_41 : decode cX7_close 41 = .ok (.aload_n 2, 1) := by decide +kernel
theorem dX7_close_42 : decode cX7_close 42 = .ok (.iload_n 1, 1) := by decide +kernel
theorem dX7_close_43 : decode cX7_close 43 = .ok (.invokevirtual 151, 3) := by decide +kernel
theorem dX7_close_46 : decode cX7_close 46 = .ok (.ifCond .ne 6, 3) := by decide +kernel
theorem dX7_close_49 : decode cX7_close 49 = .ok (.bipush (-5), 2) := by decide +kernel
theorem dX7_close_51 : decode cX7_close 51 = .ok (.ireturn, 1) := by decide +kernel
theorem dX7_close_52 : decode cX7_close 52 = .ok (.aload_n 2, 1) := by decide +kernel
theorem dX7_close_53 : decode cX7_close 53 = .ok (.getfield 215, 3) := by decide +kernel
theorem dX7_close_56 : decode cX7_close 56 = .ok (.iload_n 1, 1) := by decide +kernel
theorem dX7_close_57 : decode cX7_close 57 = .ok (.iconst 0, 1) := by decide +kernel
theorem dX7_close_58 : decode cX7_close 58 = .ok (.invokestatic 47, 3) := by decide +kernel
theorem dX7_close_61 : decode cX7_close 61 = .ok (.aload_n 0, 1) := by decide +kernel
theorem dX7_close_62 : decode cX7_close 62 = .ok (.getfield 19, 3) := by decide +kernel
theorem dX7_close_65 : decode cX7_close 65 = .ok (.iconst 1, 1) := by decide +kernel
theorem dX7_close_66 : decode cX7_close 66 = .ok (.invokevirtual 197, 3) := by decide +kernel
theorem dX7_close_69 : decode cX7_close 69 = .ok (.aload_n 2, 1) := by decide +kernel
theorem dX7_close_70 : decode cX7_close 70 = .ok (.invokevirtual 275, 3) := by decide +kernel
theorem dX7_close_73 : decode cX7_close 73 = .ok (.ireturn, 1) := by decide +kernel
theorem dX7_writeOver_0 : decode cX7_writeOver 0 = .ok (.aload_n 0, 1) := by decide +kernel
theorem dX7_writeOver_1 : decode cX7_writeOver 1 = .ok (.getfield 19, 3) := by decide +kernel
theorem dX7_writeOver_4 : decode cX7_writeOver 4 = .ok (.getfield 51, 3) := by decide +kernel
theorem dX7_writeOver_7 : decode cX7_writeOver 7 = .ok (.astore_n 2, 1) := by decide +kernel
theorem dX7_writeOver_8 : decode cX7_writeOver 8 = .ok (.aload_n 2, 1) := by decide +kernel
theorem dX7_writeOver_9 : decode cX7_writeOver 9 = .ok (.iload_n 1, 1) := by decide +kernel
theorem dX7_writeOver_10 : decode cX7_writeOver 10 = .ok (.invokevirtual 222, 3) := by decide +kernel
theorem dX7_writeOver_13 : decode cX7_writeOver 13 = .ok (.ifCond .ne 5, 3) := by decide +kernel
theorem dX7_writeOver_16 : decode cX7_writeOver 16 = .ok (.iconst (-1), 1) := by decide +kernel
theorem dX7_writeOver_17 : decode cX7_writeOver 17 = .ok (.ireturn, 1) := by decide +kernel
theorem dX7_writeOver_18 : decode cX7_writeOver 18 = .ok (.aload_n 2, 1) := by decide +kernel
theorem dX7_writeOver_19 : decode cX7_writeOver 19 = .ok (.iload_n 1, 1) := by decide +kernel
theorem dX7_writeOver_20 : decode cX7_writeOver 20 = .ok (.invokevirtual 278, 3) := by decide +kernel
theorem dX7_writeOver_23 : decode cX7_writeOver 23 = .ok (.istore_n 3, 1) := by decide +kernel
theorem dX7_writeOver_24 : decode cX7_writeOver 24 = .ok (.aload_n 0, 1) := by decide +kernel
theorem dX7_writeOver_25 : decode cX7_writeOver 25 = .ok (.getfield 19, 3) := by decide +kernel
theorem dX7_writeOver_28 : decode cX7_writeOver 28 = .ok (.getfield 74, 3) := by decide +kernel
theorem dX7_writeOver_31 : decode cX7_writeOver 31 = .ok (.getfield 78, 3) := by decide +kernel
theorem dX7_writeOver_34 : decode cX7_writeOver 34 = .ok (.ifCond .ne 14, 3) := by decide +kernel
theorem dX7_writeOver_37 : decode cX7_writeOver 37 = .ok (.iload_n 3, 1) := by decide +kernel
theorem dX7_writeOver_38 : decode cX7_writeOver 38 = .ok (.aload_n 0, 1) := by decide +kernel
theorem dX7_writeOver_39 : decode cX7_writeOver 39 = .ok (.getfield 19, 3) := by decide +kernel
theorem dX7_writeOver_42 : decode cX7_writeOver 42 = .ok (.getfield 117, 3) := by decide +kernel
theorem dX7_writeOver_45 : decode cX7_writeOver 45 = .ok (.if_icmp .le 6, 3) := by decide +kernel
theorem dX7_writeOver_48 : decode cX7_writeOver 48 = .ok (.bipush (-4), 2) := by decide +kernel
theorem dX7_writeOver_50 : decode cX7_writeOver 50 = .ok (.ireturn, 1) := by decide +kernel
theorem dX7_writeOver_51 : decode cX7_writeOver 51 = .ok (.iload_n 3, 1) := by decide +kernel
theorem dX7_writeOver_52 : decode cX7_writeOver 52 = .ok (.ifCond .ne 6, 3) := by decide +kernel
theorem dX7_writeOver_55 : decode cX7_writeOver 55 = .ok (.bipush (-5), 2) := by decide +kernel
theorem dX7_writeOver_57 : decode cX7_writeOver 57 = .ok (.ireturn, 1) := by decide +kernel
theorem dX7_writeOver_58 : decode cX7_writeOver 58 = .ok (.aload_n 0, 1) := by decide +kernel
theorem dX7_writeOver_59 : decode cX7_writeOver 59 = .ok (.getfield 19, 3) := by decide +kernel
theorem dX7_writeOver_62 : decode cX7_writeOver 62 = .ok (.iload_n 1, 1) := by decide +kernel
theorem dX7_writeOver_63 : decode cX7_writeOver 63 = .ok (.invokevirtual 281, 3) := by decide +kernel
theorem dX7_writeOver_66 : decode cX7_writeOver 66 = .ok (.aload_n 0, 1) := by decide +kernel
theorem dX7_writeOver_67 : decode cX7_writeOver 67 = .ok (.getfield 19, 3) := by decide +kernel
theorem dX7_writeOver_70 : decode cX7_writeOver 70 = .ok (.iconst 1, 1) := by decide +kernel
theorem dX7_writeOver_71 : decode cX7_writeOver 71 = .ok (.invokevirtual 197, 3) := by decide +kernel
theorem dX7_writeOver_74 : decode cX7_writeOver 74 = .ok (.iload_n 3, 1) := by decide +kernel
theorem dX7_writeOver_75 : decode cX7_writeOver 75 = .ok (.ireturn, 1) := by decide +kernel
theorem dX7_reset_0 : decode cX7_reset 0 = .ok (.aload_n 0, 1) := by decide +kernel
theorem dX7_reset_1 : decode cX7_reset 1 = .ok (.getfield 19, 3) := by decide +kernel
theorem dX7_reset_4 : decode cX7_reset 4 = .ok (.getfield 74, 3) := by decide +kernel
theorem dX7_reset_7 : decode cX7_reset 7 = .ok (.getfield 78, 3) := by decide +kernel
theorem dX7_reset_10 : decode cX7_reset 10 = .ok (.ifCond .eq 6, 3) := by decide +kernel
theorem dX7_reset_13 : decode cX7_reset 13 = .ok (.bipush (-4), 2) := by decide +kernel
theorem dX7_reset_15 : decode cX7_reset 15 = .ok (.ireturn, 1) := by decide +kernel
theorem dX7_reset_16 : decode cX7_reset 16 = .ok (.aload_n 0, 1) := by decide +kernel
theorem dX7_reset_17 : decode cX7_reset 17 = .ok (.getfield 19, 3) := by decide +kernel
theorem dX7_reset_20 : decode cX7_reset 20 = .ok (.invokevirtual 284, 3) := by decide +kernel
theorem dX7_reset_23 : decode cX7_reset 23 = .ok (.istore_n 1, 1) := by decide +kernel
theorem dX7_reset_24 : decode cX7_reset 24 = .ok (.iload_n 1, 1) := by decide +kernel
theorem dX7_reset_25 : decode cX7_reset 25 = .ok (.ifCond .ne 6, 3) := by decide +kernel
theorem dX7_reset_28 : decode cX7_reset 28 = .ok (.bipush (-5), 2) := by decide +kernel
theorem dX7_reset_30 : decode cX7_reset 30 = .ok (.ireturn, 1) := by decide +kernel
theorem dX7_reset_31 : decode cX7_reset 31 = .ok (.aload_n 0, 1) := by decide +kernel
theorem dX7_reset_32 : decode cX7_reset 32 = .ok (.getfield 19, 3) := by decide +kernel
theorem dX7_reset_35 : decode cX7_reset 35 = .ok (.invokevirtual 287, 3) := by decide +kernel
theorem dX7_reset_38 : decode cX7_reset 38 = .ok (.aload_n 0, 1) := by decide +kernel
theorem dX7_reset_39 : decode cX7_reset 39 = .ok (.getfield 19, 3) := by decide +kernel
theorem dX7_reset_42 : decode cX7_reset 42 = .ok (.iload_n 1, 1) := by decide +kernel
theorem dX7_reset_43 : decode cX7_reset 43 = .ok (.invokevirtual 197, 3) := by decide +kernel
theorem dX7_reset_46 : decode cX7_reset 46 = .ok (.iload_n 1, 1) := by decide +kernel
theorem dX7_reset_47 : decode cX7_reset 47 = .ok (.ireturn, 1) := by decide +kernel
theorem dX7_keep_0 : decode cX7_keep 0 = .ok (.iload_n 1, 1) := by decide +kernel
theorem dX7_keep_1 : decode cX7_keep 1 = .ok (.invokestatic 290, 3) := by decide +kernel
theorem dX7_keep_4 : decode cX7_keep 4 = .ok (.ifCond .ne 5, 3) := by decide +kernel
theorem dX7_keep_7 : decode cX7_keep 7 = .ok (.iconst (-1), 1) := by decide +kernel
theorem dX7_keep_8 : decode cX7_keep 8 = .ok (.ireturn, 1) := by decide +kernel
theorem dX7_keep_9 : decode cX7_keep 9 = .ok (.aload_n 0, 1) := by decide +kernel
end
section
theorem dX7_keep_10 : decode cX7_keep 10 = .ok (.iload_n 1, 1) := by decide +kernel
theorem dX7_keep_11 : decode cX7_keep 11 = .ok (.invokevirtual 293, 3) := by decide +kernel
theorem dX7_keep_14 : decode cX7_keep 14 = .ok (.aload_n 0, 1) := by decide +kernel
theorem dX7_keep_15 : decode cX7_keep 15 = .ok (.getfield 19, 3) := by decide +kernel
theorem dX7_keep_18 : decode cX7_keep 18 = .ok (.invokevirtual 297, 3) := by decide +kernel
theorem dX7_keep_21 : decode cX7_keep 21 = .ok (.aload_n 0, 1) := by decide +kernel
theorem dX7_keep_22 : decode cX7_keep 22 = .ok (.dup, 1) := by decide +kernel
theorem dX7_keep_23 : decode cX7_keep 23 = .ok (.getfield 36, 3) := by decide +kernel
theorem dX7_keep_26 : decode cX7_keep 26 = .ok (.iconst 1, 1) := by decide +kernel
theorem dX7_keep_27 : decode cX7_keep 27 = .ok (.iload_n 1, 1) := by decide +kernel
theorem dX7_keep_28 : decode cX7_keep 28 = .ok (.ishl, 1) := by decide +kernel
theorem dX7_keep_29 : decode cX7_keep 29 = .ok (.ior, 1) := by decide +kernel
theorem dX7_keep_30 : decode cX7_keep 30 = .ok (.putfield 36, 3) := by decide +kernel
theorem dX7_keep_33 : decode cX7_keep 33 = .ok (.aload_n 0, 1) := by decide +kernel
theorem dX7_keep_34 : decode cX7_keep 34 = .ok (.getfield 19, 3) := by decide +kernel
theorem dX7_keep_37 : decode cX7_keep 37 = .ok (.getfield 269, 3) := by decide +kernel
theorem dX7_keep_40 : decode cX7_keep 40 = .ok (.ireturn, 1) := by decide +kernel
theorem dX7_restore_0 : decode cX7_restore 0 = .ok (.iload_n 1, 1) := by decide +kernel
theorem dX7_restore_1 : decode cX7_restore 1 = .ok (.invokestatic 290, 3) := by decide +kernel
theorem dX7_restore_4 : decode cX7_restore 4 = .ok (.ifCond .ne 5, 3) := by decide +kernel
theorem dX7_restore_7 : decode cX7_restore 7 = .ok (.iconst (-1), 1) := by decide +kernel
theorem dX7_restore_8 : decode cX7_restore 8 = .ok (.ireturn, 1) := by decide +kernel
theorem dX7_restore_9 : decode cX7_restore 9 = .ok (.aload_n 0, 1) := by decide +kernel
theorem dX7_restore_10 : decode cX7_restore 10 = .ok (.getfield 36, 3) := by decide +kernel
theorem dX7_restore_13 : decode cX7_restore 13 = .ok (.iload_n 1, 1) := by decide +kernel
theorem dX7_restore_14 : decode cX7_restore 14 = .ok (.ishr, 1) := by decide +kernel
theorem dX7_restore_15 : decode cX7_restore 15 = .ok (.iconst 1, 1) := by decide +kernel
theorem dX7_restore_16 : decode cX7_restore 16 = .ok (.iand, 1) := by decide +kernel
theorem dX7_restore_17 : decode cX7_restore 17 = .ok (.ifCond .ne 6, 3) := by decide +kernel
theorem dX7_restore_20 : decode cX7_restore 20 = .ok (.bipush (-5), 2) := by decide +kernel
theorem dX7_restore_22 : decode cX7_restore 22 = .ok (.ireturn, 1) := by decide +kernel
theorem dX7_restore_23 : decode cX7_restore 23 = .ok (.aload_n 0, 1) := by decide +kernel
theorem dX7_restore_24 : decode cX7_restore 24 = .ok (.getfield 19, 3) := by decide +kernel
theorem dX7_restore_27 : decode cX7_restore 27 = .ok (.aload_n 0, 1) := by decide +kernel
theorem dX7_restore_28 : decode cX7_restore 28 = .ok (.iload_n 1, 1) := by decide +kernel
theorem dX7_restore_29 : decode cX7_restore 29 = .ok (.invokevirtual 293, 3) := by decide +kernel
theorem dX7_restore_32 : decode cX7_restore 32 = .ok (.invokevirtual 297, 3) := by decide +kernel
theorem dX7_restore_35 : decode cX7_restore 35 = .ok (.aload_n 0, 1) := by decide +kernel
theorem dX7_restore_36 : decode cX7_restore 36 = .ok (.getfield 19, 3) := by decide +kernel
theorem dX7_restore_39 : decode cX7_restore 39 = .ok (.getfield 269, 3) := by decide +kernel
theorem dX7_restore_42 : decode cX7_restore 42 = .ok (.ireturn, 1) := by decide +kernel
theorem dX7_box_0 : decode cX7_box 0 = .ok (.aload_n 0, 1) := by decide +kernel
theorem dX7_box_1 : decode cX7_box 1 = .ok (.getfield 19, 3) := by decide +kernel
theorem dX7_box_4 : decode cX7_box 4 = .ok (.getfield 51, 3) := by decide +kernel
theorem dX7_box_7 : decode cX7_box 7 = .ok (.astore_n 3, 1) := by decide +kernel
theorem dX7_box_8 : decode cX7_box 8 = .ok (.aload_n 3, 1) := by decide +kernel
theorem dX7_box_9 : decode cX7_box 9 = .ok (.iload_n 1, 1) := by decide +kernel
theorem dX7_box_10 : decode cX7_box 10 = .ok (.invokevirtual 64, 3) := by decide +kernel
theorem dX7_box_13 : decode cX7_box 13 = .ok (.ifCond .ne 5, 3) := by decide +kernel
theorem dX7_box_16 : decode cX7_box 16 = .ok (.iconst (-1), 1) := by decide +kernel
theorem dX7_box_17 : decode cX7_box 17 = .ok (.ireturn, 1) := by decide +kernel
theorem dX7_box_18 : decode cX7_box 18 = .ok (.iload_n 2, 1) := by decide +kernel
theorem dX7_box_19 : decode cX7_box 19 = .ok (.tableswitch 147 0 7 #[45, 63, 81, 90, 99, 105, 111, 138], 45) := by decide +kernel
theorem dX7_box_64 : decode cX7_box 64 = .ok (.iload_n 1, 1) := by decide +kernel
theorem dX7_box_65 : decode cX7_box 65 = .ok (.ifCond .ne 8, 3) := by decide +kernel
theorem dX7_box_68 : decode cX7_box 68 = .ok (.bipush (-5), 2) := by decide +kernel
theorem dX7_box_70 : decode cX7_box 70 = .ok (.goto 11, 3) := by decide +kernel
theorem dX7_box_73 : decode cX7_box 73 = .ok (.aload_n 3, 1) := by decide +kernel
theorem dX7_box_74 : decode cX7_box 74 = .ok (.getfield 301, 3) := by decide +kernel
theorem dX7_box_77 : decode cX7_box 77 = .ok (.iload_n 1, 1) := by decide +kernel
theorem dX7_box_78 : decode cX7_box 78 = .ok (.invokestatic 136, 3) := by decide +kernel
theorem dX7_box_81 : decode cX7_box 81 = .ok (.ireturn, 1) := by decide +kernel
theorem dX7_box_82 : decode cX7_box 82 = .ok (.iload_n 1, 1) := by decide +kernel
theorem dX7_box_83 : decode cX7_box 83 = .ok (.ifCond .ne 8, 3) := by decide +kernel
theorem dX7_box_86 : decode cX7_box 86 = .ok (.bipush (-5), 2) := by decide +kernel
theorem dX7_box_88 : decode cX7_box 88 = .ok (.goto 11, 3) := by decide +kernel
theorem dX7_box_91 : decode cX7_box 91 = .ok (.aload_n 3, 1) := by decide +kernel
theorem dX7_box_92 : decode cX7_box 92 = .ok (.getfield 303, 3) := by decide +kernel
theorem dX7_box_95 : decode cX7_box 95 = .ok (.iload_n 1, 1) := by decide +kernel
theorem dX7_box_96 : decode cX7_box 96 = .ok (.invokestatic 136, 3) := by decide +kernel
theorem dX7_box_99 : decode cX7_box 99 = .ok (.ireturn, 1) := by decide +kernel
theorem dX7_box_100 : decode cX7_box 100 = .ok (.aload_n 3, 1) := by decide +kernel
theorem dX7_box_101 : decode cX7_box 101 = .ok (.getfield 215, 3) := by decide +kernel
theorem dX7_box_104 : decode cX7_box 104 = .ok (.iload_n 1, 1) := by decide +kernel
theorem dX7_box_105 : decode cX7_box 105 = .ok (.invokestatic 136, 3) := by decide +kernel
theorem dX7_box_108 : decode cX7_box 108 = .ok (.ireturn, 1) := by decide +kernel
theorem dX7_box_109 : decode cX7_box 109 = .ok (.aload_n 3, 1) := by decide +kernel
theorem dX7_box_110 : decode cX7_box 110 = .ok (.iload_n 1, 1) := by decide +kernel
theorem dX7_box_111 : decode cX7_box 111 = .ok (.invokevirtual 305, 3) := by decide +kernel
theorem dX7_box_114 : decode cX7_box 114 = .ok (.invokestatic 308, 3) := by decide +kernel
theorem dX7_box_117 : decode cX7_box 117 = .ok (.ireturn, 1) := by decide +kernel
theorem dX7_box_118 : decode cX7_box 118 = .ok (.aload_n 3, 1) := by decide +kernel
theorem dX7_box_119 : decode cX7_box 119 = .ok (.iload_n 1, 1) := by decide +kernel
theorem dX7_box_120 : decode cX7_box 120 = .ok (.invokevirtual 312, 3) := by decide +kernel
theorem dX7_box_123 : decode cX7_box 123 = .ok (.ireturn, 1) := by decide +kernel
theorem dX7_box_124 : decode cX7_box 124 = .ok (.aload_n 3, 1) := by decide +kernel
theorem dX7_box_125 : decode cX7_box 125 = .ok (.iload_n 1, 1) := by decide +kernel
theorem dX7_box_126 : decode cX7_box 126 = .ok (.invokevirtual 315, 3) := by decide +kernel
theorem dX7_box_129 : decode cX7_box 129 = .ok (.ireturn, 1) := by decide +kernel
theorem dX7_box_130 : decode cX7_box 130 = .ok (.iload_n 1, 1) := by decide +kernel
theorem dX7_box_131 : decode cX7_box 131 = .ok (.ifCond .eq 12, 3) := by decide +kernel
theorem dX7_box_134 : decode cX7_box 134 = .ok (.aload_n 3, 1) := by decide +kernel
theorem dX7_box_135 : decode cX7_box 135 = .ok (.iload_n 1, 1) := by decide +kernel
theorem dX7_box_136 : decode cX7_box 136 = .ok (.iconst 0, 1) := by decide +kernel
theorem dX7_box_137 : decode cX7_box 137 = .ok (.invokevirtual 98, 3) := by decide +kernel
theorem dX7_box_140 : decode cX7_box 140 = .ok (.ifCond .eq 8, 3) := by decide +kernel
theorem dX7_box_143 : decode cX7_box 143 = .ok (.bipush (-5), 2) := by decide +kernel
theorem dX7_box_145 : decode cX7_box 145 = .ok (.goto 11, 3) := by decide +kernel
theorem dX7_box_148 : decode cX7_box 148 = .ok (.aload_n 3, 1) := by decide +kernel
theorem dX7_box_149 : decode cX7_box 149 = .ok (.getfield 208, 3) := by decide +kernel
theorem dX7_box_152 : decode cX7_box 152 = .ok (.iload_n 1, 1) := by decide +kernel
theorem dX7_box_153 : decode cX7_box 153 = .ok (.invokestatic 136, 3) := by decide +kernel
theorem dX7_box_156 : decode cX7_box 156 = .ok (.ireturn, 1) := by decide +kernel
theorem dX7_box_157 : decode cX7_box 157 = .ok (.aload_n 3, 1) := by decide +kernel
theorem dX7_box_158 : decode cX7_box 158 = .ok (.getfield 318, 3) := by decide +kernel
theorem dX7_box_161 : decode cX7_box 161 = .ok (.iload_n 1, 1) := by decide +kernel
theorem dX7_box_162 : decode cX7_box 162 = .ok (.invokestatic 136, 3) := by decide +kernel
theorem dX7_box_165 : decode cX7_box 165 = .ok (.ireturn, 1) := by decide +kernel
theorem dX7_box_166 : decode cX7_box 166 = .ok (.bipush (-2), 2) := by decide +kernel
theorem dX7_box_168 : decode cX7_box 168 = .ok (.ireturn, 1) := by decide +kernel
theorem dX7_prop_0 : decode cX7_prop 0 = .ok (.aload_n 0, 1) := by decide +kernel
theorem dX7_prop_1 : decode cX7_prop 1 = .ok (.getfield 19, 3) := by decide +kernel
theorem dX7_prop_4 : decode cX7_prop 4 = .ok (.getfield 51, 3) := by decide +kernel
theorem dX7_prop_7 : decode cX7_prop 7 = .ok (.astore_n 3, 1) := by decide +kernel
theorem dX7_prop_8 : decode cX7_prop 8 = .ok (.aload_n 3, 1) := by decide +kernel
theorem dX7_prop_9 : decode cX7_prop 9 = .ok (.iload_n 1, 1) := by decide +kernel
theorem dX7_prop_10 : decode cX7_prop 10 = .ok (.invokevirtual 71, 3) := by decide +kernel
theorem dX7_prop_13 : decode cX7_prop 13 = .ok (.ifCond .ne 5, 3) := by decide +kernel
theorem dX7_prop_16 : decode cX7_prop 16 = .ok (.iconst (-1), 1) := by decide +kernel
theorem dX7_prop_17 : decode cX7_prop 17 = .ok (.ireturn, 1) := by decide +kernel
theorem dX7_prop_18 : decode cX7_prop 18 = .ok (.iload_n 2, 1) := by decide +kernel
theorem dX7_prop_19 : decode cX7_prop 19 = .ok (.tableswitch 85 0 4 #[33, 42, 64, 73, 79], 33) := by decide +kernel
theorem dX7_prop_52 : decode cX7_prop 52 = .ok (.aload_n 3, 1) := by decide +kernel
theorem dX7_prop_53 : decode cX7_prop 53 = .ok (.getfield 272, 3) := by decide +kernel
theorem dX7_prop_56 : decode cX7_prop 56 = .ok (.iload_n 1, 1) := by decide +kernel
theorem dX7_prop_57 : decode cX7_prop 57 = .ok (.invokestatic 136, 3) := by decide +kernel
theorem dX7_prop_60 : decode cX7_prop 60 = .ok (.ireturn, 1) := by decide +kernel
theorem dX7_prop_61 : decode cX7_prop 61 = .ok (.aload_n 3, 1) := by decide +kernel
theorem dX7_prop_62 : decode cX7_prop 62 = .ok (.iload_n 1, 1) := by decide +kernel
theorem dX7_prop_63 : decode cX7_prop 63 = .ok (.invokevirtual 166, 3) := by decide +kernel
theorem dX7_prop_66 : decode cX7_prop 66 = .ok (.ifCond .eq 8, 3) := by decide +kernel
theorem dX7_prop_69 : decode cX7_prop 69 = .ok (.bipush (-5), 2) := by decide +kernel
theorem dX7_prop_71 : decode cX7_prop 71 = .ok (.goto 11, 3) := by decide +kernel
theorem dX7_prop_74 : decode cX7_prop 74 = .ok (.aload_n 3, 1) := by decide +kernel
theorem dX7_prop_75 : decode cX7_prop 75 = .ok (.getfield 194, 3) := by decide +kernel
theorem dX7_prop_78 : decode cX7_prop 78 = .ok (.iload_n 1, 1) := by decide +kernel
theorem dX7_prop_79 : decode cX7_prop 79 = .ok (.invokestatic 136, 3) := by decide +kernel
theorem dX7_prop_82 : decode cX7_prop 82 = .ok (.ireturn, 1) := by decide +kernel
theorem dX7_prop_83 : decode cX7_prop 83 = .ok (.aload_n 3, 1) := by decide +kernel
theorem dX7_prop_84 : decode cX7_prop 84 = .ok (.iload_n 1, 1) := by decide +kernel
theorem dX7_prop_85 : decode cX7_prop 85 = .ok (.invokevirtual 169, 3) := by decide +kernel
theorem dX7_prop_88 : decode cX7_prop 88 = .ok (.invokestatic 308, 3) := by decide +kernel
theorem dX7_prop_91 : decode cX7_prop 91 = .ok (.ireturn, 1) := by decide +kernel
theorem dX7_prop_92 : decode cX7_prop 92 = .ok (.aload_n 3, 1) := by decide +kernel
theorem dX7_prop_93 : decode cX7_prop 93 = .ok (.iload_n 1, 1) := by decide +kernel
theorem dX7_prop_94 : decode cX7_prop 94 = .ok (.invokevirtual 321, 3) := by decide +kernel
theorem dX7_prop_97 : decode cX7_prop 97 = .ok (.ireturn, 1) := by decide +kernel
theorem dX7_prop_98 : decode cX7_prop 98 = .ok (.aload_n 3, 1) := by decide +kernel
theorem dX7_prop_99 : decode cX7_prop 99 = .ok (.iload_n 1, 1) := by decide +kernel
theorem dX7_prop_100 : decode cX7_prop 100 = .ok (.invokevirtual 324, 3) := by decide +kernel
theorem dX7_prop_103 : decode cX7_prop 103 = .ok (.ireturn, 1) := by decide +kernel
theorem dX7_prop_104 : decode cX7_prop 104 = .ok (.bipush (-2), 2) := by decide +kernel
theorem dX7_prop_106 : decode cX7_prop 106 = .ok (.ireturn, 1) := by decide +kernel
theorem dX7_clue_0 : decode cX7_clue 0 = .ok (.aload_n 0, 1) := by decide +kernel
theorem dX7_clue_1 : decode cX7_clue 1 = .ok (.getfield 19, 3) := by decide +kernel
theorem dX7_clue_4 : decode cX7_clue 4 = .ok (.getfield 51, 3) := by decide +kernel
theorem dX7_clue_7 : decode cX7_clue 7 = .ok (.astore_n 3, 1) := by decide +kernel
theorem dX7_clue_8 : decode cX7_clue 8 = .ok (.aload_n 3, 1) := by decide +kernel
theorem dX7_clue_9 : decode cX7_clue 9 = .ok (.iload_n 1, 1) := by decide +kernel
theorem dX7_clue_10 : decode cX7_clue 10 = .ok (.invokevirtual 222, 3) := by decide +kernel
theorem dX7_clue_13 : decode cX7_clue 13 = .ok (.ifCond .ne 5, 3) := by decide +kernel
theorem dX7_clue_16 : decode cX7_clue 16 = .ok (.iconst (-1), 1) := by decide +kernel
theorem dX7_clue_17 : decode cX7_clue 17 = .ok (.ireturn, 1) := by decide +kernel
theorem dX7_clue_18 : decode cX7_clue 18 = .ok (.iload_n 2, 1) := by decide +kernel
theorem dX7_clue_19 : decode cX7_clue 19 = .ok (.tableswitch 88 0 5 #[37, 46, 55, 64, 73, 79], 37) := by decide +kernel
theorem dX7_clue_56 : decode cX7_clue 56 = .ok (.aload_n 3, 1) := by decide +kernel
theorem dX7_clue_57 : decode cX7_clue 57 = .ok (.getfield 327, 3) := by decide +kernel
theorem dX7_clue_60 : decode cX7_clue 60 = .ok (.iload_n 1, 1) := by decide +kernel
theorem dX7_clue_61 : decode cX7_clue 61 = .ok (.invokestatic 136, 3) := by decide +kernel
theorem dX7_clue_64 : decode cX7_clue 64 = .ok (.ireturn, 1) := by decide +kernel
theorem dX7_clue_65 : decode cX7_clue 65 = .ok (.aload_n 3, 1) := by decide +kernel
theorem dX7_clue_66 : decode cX7_clue 66 = .ok (.getfield 330, 3) := by decide +kernel
theorem dX7_clue_69 : decode cX7_clue 69 = .ok (.iload_n 1, 1) := by decide +kernel
theorem dX7_clue_70 : decode cX7_clue 70 = .ok (.invokestatic 136, 3) := by decide +kernel
theorem dX7_clue_73 : decode cX7_clue 73 = .ok (.ireturn, 1) := by decide +kernel
theorem dX7_clue_74 : decode cX7_clue 74 = .ok (.aload_n 3, 1) := by decide +kernel
theorem dX7_clue_75 : decode cX7_clue 75 = .ok (.getfield 333, 3) := by decide +kernel
theorem dX7_clue_78 : decode cX7_clue 78 = .ok (.iload_n 1, 1) := by decide +kernel
theorem dX7_clue_79 : decode cX7_clue 79 = .ok (.invokestatic 136, 3) := by decide +kernel
theorem dX7_clue_82 : decode cX7_clue 82 = .ok (.ireturn, 1) := by decide +kernel
theorem dX7_clue_83 : decode cX7_clue 83 = .ok (.aload_n 3, 1) := by decide +kernel
theorem dX7_clue_84 : decode cX7_clue 84 = .ok (.getfield 228, 3) := by decide +kernel
theorem dX7_clue_87 : decode cX7_clue 87 = .ok (.iload_n 1, 1) := by decide +kernel
theorem dX7_clue_88 : decode cX7_clue 88 = .ok (.invokestatic 136, 3) := by decide +kernel
theorem dX7_clue_91 : decode cX7_clue 91 = .ok (.ireturn, 1) := by decide +kernel
theorem dX7_clue_92 : decode cX7_clue 92 = .ok (.aload_n 3, 1) := by decide +kernel
theorem dX7_clue_93 : decode cX7_clue 93 = .ok (.iload_n 1, 1) := by decide +kernel
theorem dX7_clue_94 : decode cX7_clue 94 = .ok (.invokevirtual 239, 3) := by decide +kernel
theorem dX7_clue_97 : decode cX7_clue 97 = .ok (.ireturn, 1) := by decide +kernel
theorem dX7_clue_98 : decode cX7_clue 98 = .ok (.aload_n 3, 1) := by decide +kernel
theorem dX7_clue_99 : decode cX7_clue 99 = .ok (.iload_n 1, 1) := by decide +kernel
theorem dX7_clue_100 : decode cX7_clue 100 = .ok (.invokevirtual 225, 3) := by decide +kernel
theorem dX7_clue_103 : decode cX7_clue 103 = .ok (.invokestatic 308, 3) := by decide +kernel
theorem dX7_clue_106 : decode cX7_clue 106 = .ok (.ireturn, 1) := by decide +kernel
theorem dX7_clue_107 : decode cX7_clue 107 = .ok (.bipush (-2), 2) := by decide +kernel
theorem dX7_clue_109 : decode cX7_clue 109 = .ok (.ireturn, 1) := by decide +kernel
theorem dX7_game_0 : decode cX7_game 0 = .ok (.iload_n 1, 1) := by decide +kernel
theorem dX7_game_1 : decode cX7_game 1 = .ok (.ifCond .lt 8, 3) := by decide +kernel
theorem dX7_game_4 : decode cX7_game 4 = .ok (.iload_n 1, 1) := by decide +kernel
theorem dX7_game_5 : decode cX7_game 5 = .ok (.iconst 5, 1) := by decide +kernel
theorem dX7_game_6 : decode cX7_game 6 = .ok (.if_icmp .le 6, 3) := by decide +kernel
theorem dX7_game_9 : decode cX7_game 9 = .ok (.bipush (-2), 2) := by decide +kernel
theorem dX7_game_11 : decode cX7_game 11 = .ok (.ireturn, 1) := by decide +kernel
theorem dX7_game_12 : decode cX7_game 12 = .ok (.aload_n 0, 1) := by decide +kernel
theorem dX7_game_13 : decode cX7_game 13 = .ok (.getfield 19, 3) := by decide +kernel
theorem dX7_game_16 : decode cX7_game 16 = .ok (.getfield 74, 3) := by decide +kernel
theorem dX7_game_19 : decode cX7_game 19 = .ok (.getfield 78, 3) := by decide +kernel
theorem dX7_game_22 : decode cX7_game 22 = .ok (.ifCond .ne 6, 3) := by decide +kernel
theorem dX7_game_25 : decode cX7_game 25 = .ok (.bipush (-4), 2) := by decide +kernel
theorem dX7_game_27 : decode cX7_game 27 = .ok (.ireturn, 1) := by decide +kernel
theorem dX7_game_28 : decode cX7_game 28 = .ok (.iload_n 1, 1) := by decide +kernel
theorem dX7_game_29 : decode cX7_game 29 = .ok (.tableswitch 87 0 4 #[35, 46, 57, 65, 76], 35) := by decide +kernel
theorem dX7_game_64 : decode cX7_game 64 = .ok (.aload_n 0, 1) := by decide +kernel
theorem dX7_game_65 : decode cX7_game 65 = .ok (.getfield 19, 3) := by decide +kernel
theorem dX7_game_68 : decode cX7_game 68 = .ok (.getfield 74, 3) := by decide +kernel
theorem dX7_game_71 : decode cX7_game 71 = .ok (.getfield 336, 3) := by decide +kernel
theorem dX7_game_74 : decode cX7_game 74 = .ok (.ireturn, 1) := by decide +kernel
theorem dX7_game_75 : decode cX7_game 75 = .ok (.aload_n 0, 1) := by decide +kernel
theorem dX7_game_76 : decode cX7_game 76 = .ok (.getfield 19, 3) := by decide +kernel
theorem dX7_game_79 : decode cX7_game 79 = .ok (.getfield 74, 3) := by decide +kernel
theorem dX7_game_82 : decode cX7_game 82 = .ok (.getfield 339, 3) := by decide +kernel
theorem dX7_game_85 : decode cX7_game 85 = .ok (.ireturn, 1) := by decide +kernel
theorem dX7_game_86 : decode cX7_game 86 = .ok (.aload_n 0, 1) := by decide +kernel
theorem dX7_game_87 : decode cX7_game 87 = .ok (.getfield 19, 3) := by decide +kernel
theorem dX7_game_90 : decode cX7_game 90 = .ok (.invokevirtual 244, 3) := by decide +kernel
theorem dX7_game_93 : decode cX7_game 93 = .ok (.ireturn, 1) := by decide +kernel
theorem dX7_game_94 : decode cX7_game 94 = .ok (.aload_n 0, 1) := by decide +kernel
theorem dX7_game_95 : decode cX7_game 95 = .ok (.getfield 19, 3) := by decide +kernel
theorem dX7_game_98 : decode cX7_game 98 = .ok (.getfield 74, 3) := by decide +kernel
theorem dX7_game_101 : decode cX7_game 101 = .ok (.getfield 247, 3) := by decide +kernel
theorem dX7_game_104 : decode cX7_game 104 = .ok (.ireturn, 1) := by decide +kernel
theorem dX7_game_105 : decode cX7_game 105 = .ok (.aload_n 0, 1) := by decide +kernel
theorem dX7_game_106 : decode cX7_game 106 = .ok (.getfield 19, 3) := by decide +kernel
theorem dX7_game_109 : decode cX7_game 109 = .ok (.getfield 51, 3) := by decide +kernel
theorem dX7_game_112 : decode cX7_game 112 = .ok (.invokevirtual 342, 3) := by decide +kernel
theorem dX7_game_115 : decode cX7_game 115 = .ok (.ireturn, 1) := by decide +kernel
theorem dX7_game_116 : decode cX7_game 116 = .ok (.aload_n 0, 1) := by decide +kernel
theorem dX7_game_117 : decode cX7_game 117 = .ok (.getfield 19, 3) := by decide +kernel
theorem dX7_game_120 : decode cX7_game 120 = .ok (.getfield 74, 3) := by decide +kernel
theorem dX7_game_123 : decode cX7_game 123 = .ok (.getfield 212, 3) := by decide +kernel
theorem dX7_game_126 : decode cX7_game 126 = .ok (.ireturn, 1) := by decide +kernel
theorem dX7_group_0 : decode cX7_group 0 = .ok (.aload_n 0, 1) := by decide +kernel
theorem dX7_group_1 : decode cX7_group 1 = .ok (.getfield 19, 3) := by decide +kernel
theorem dX7_group_4 : decode cX7_group 4 = .ok (.getfield 120, 3) := by decide +kernel
theorem dX7_group_7 : decode cX7_group 7 = .ok (.iload_n 1, 1) := by decide +kernel
theorem dX7_group_8 : decode cX7_group 8 = .ok (.invokevirtual 144, 3) := by decide +kernel
theorem dX7_group_11 : decode cX7_group 11 = .ok (.ifCond .ne 5, 3) := by decide +kernel
theorem dX7_group_14 : decode cX7_group 14 = .ok (.iconst (-1), 1) := by decide +kernel
theorem dX7_group_15 : decode cX7_group 15 = .ok (.ireturn, 1) := by decide +kernel
theorem dX7_group_16 : decode cX7_group 16 = .ok (.iload_n 2, 1) := by decide +kernel
theorem dX7_group_17 : decode cX7_group 17 = .ok (.tableswitch 66 0 2 #[27, 42, 57], 27) := by decide +kernel
theorem dX7_group_44 : decode cX7_group 44 = .ok (.aload_n 0, 1) := by decide +kernel
theorem dX7_group_45 : decode cX7_group 45 = .ok (.getfield 19, 3) := by decide +kernel
theorem dX7_group_48 : decode cX7_group 48 = .ok (.getfield 120, 3) := by decide +kernel
theorem dX7_group_51 : decode cX7_group 51 = .ok (.getfield 345, 3) := by decide +kernel
theorem dX7_group_54 : decode cX7_group 54 = .ok (.iload_n 1, 1) := by decide +kernel
theorem dX7_group_55 : decode cX7_group 55 = .ok (.invokestatic 136, 3) := by decide +kernel
theorem dX7_group_58 : decode cX7_group 58 = .ok (.ireturn, 1) := by decide +kernel
theorem dX7_group_59 : decode cX7_group 59 = .ok (.aload_n 0, 1) := by decide +kernel
theorem dX7_group_60 : decode cX7_group 60 = .ok (.getfield 19, 3) := by decide +kernel
theorem dX7_group_63 : decode cX7_group 63 = .ok (.getfield 120, 3) := by decide +kernel
theorem dX7_group_66 : decode cX7_group 66 = .ok (.getfield 133, 3) := by decide +kernel
theorem dX7_group_69 : decode cX7_group 69 = .ok (.iload_n 1, 1) := by decide +kernel
theorem dX7_group_70 : decode cX7_group 70 = .ok (.invokestatic 136, 3) := by decide +kernel
theorem dX7_group_73 : decode cX7_group 73 = .ok (.ireturn, 1) := by decide +kernel
theorem dX7_group_74 : decode cX7_group 74 = .ok (.aload_n 0, 1) := by decide +kernel
theorem dX7_group_75 : decode cX7_group 75 = .ok (.getfield 19, 3) := by decide +kernel
theorem dX7_group_78 : decode cX7_group 78 = .ok (.iload_n 1, 1) := by decide +kernel
theorem dX7_group_79 : decode cX7_group 79 = .ok (.invokevirtual 347, 3) := by decide +kernel
theorem dX7_group_82 : decode cX7_group 82 = .ok (.ireturn, 1) := by decide +kernel
theorem dX7_group_83 : decode cX7_group 83 = .ok (.bipush (-2), 2) := by decide +kernel
theorem dX7_group_85 : decode cX7_group 85 = .ok (.ireturn, 1) := by decide +kernel
theorem dX7_result_0 : decode cX7_result 0 = .ok (.iload_n 1, 1) := by decide +kernel
theorem dX7_result_1 : decode cX7_result 1 = .ok (.ifCond .lt 17, 3) := by decide +kernel
theorem dX7_result_4 : decode cX7_result 4 = .ok (.iload_n 1, 1) := by decide +kernel
theorem dX7_result_5 : decode cX7_result 5 = .ok (.aload_n 0, 1) := by decide +kernel
theorem dX7_result_6 : decode cX7_result 6 = .ok (.getfield 19, 3) := by decide +kernel
theorem dX7_result_9 : decode cX7_result 9 = .ok (.getfield 154, 3) := by decide +kernel
theorem dX7_result_12 : decode cX7_result 12 = .ok (.getfield 158, 3) := by decide +kernel
theorem dX7_result_15 : decode cX7_result 15 = .ok (.if_icmp .lt 5, 3) := by decide +kernel
theorem dX7_result_18 : decode cX7_result 18 = .ok (.iconst (-1), 1) := by decide +kernel
theorem dX7_result_19 : decode cX7_result 19 = .ok (.ireturn, 1) := by decide +kernel
theorem dX7_result_20 : decode cX7_result 20 = .ok (.iload_n 2, 1) := by decide +kernel
theorem dX7_result_21 : decode cX7_result 21 = .ok (.ifCond .lt 9, 3) := by decide +kernel
theorem dX7_result_24 : decode cX7_result 24 = .ok (.iload_n 2, 1) := by decide +kernel
theorem dX7_result_25 : decode cX7_result 25 = .ok (.bipush 7, 2) := by decide +kernel
theorem dX7_result_27 : decode cX7_result 27 = .ok (.if_icmp .lt 6, 3) := by decide +kernel
theorem dX7_result_30 : decode cX7_result 30 = .ok (.bipush (-2), 2) := by decide +kernel
theorem dX7_result_32 : decode cX7_result 32 = .ok (.ireturn, 1) := by decide +kernel
theorem dX7_result_33 : decode cX7_result 33 = .ok (.aload_n 0, 1) := by decide +kernel
theorem dX7_result_34 : decode cX7_result 34 = .ok (.getfield 19, 3) := by decide +kernel
theorem dX7_result_37 : decode cX7_result 37 = .ok (.getfield 154, 3) := by decide +kernel
theorem dX7_result_40 : decode cX7_result 40 = .ok (.getfield 350, 3) := by decide +kernel
theorem dX7_result_43 : decode cX7_result 43 = .ok (.iload_n 1, 1) := by decide +kernel
theorem dX7_result_44 : decode cX7_result 44 = .ok (.bipush 7, 2) := by decide +kernel
theorem dX7_result_46 : decode cX7_result 46 = .ok (.imul, 1) := by decide +kernel
theorem dX7_result_47 : decode cX7_result 47 = .ok (.iload_n 2, 1) := by decide +kernel
theorem dX7_result_48 : decode cX7_result 48 = .ok (.iadd, 1) := by decide +kernel
theorem dX7_result_49 : decode cX7_result 49 = .ok (.invokestatic 136, 3) := by decide +kernel
theorem dX7_result_52 : decode cX7_result 52 = .ok (.ireturn, 1) := by decide +kernel
theorem dX7_nextStep_0 : decode cX7_nextStep 0 = .ok (.aload_n 0, 1) := by decide +kernel
theorem dX7_nextStep_1 : decode cX7_nextStep 1 = .ok (.getfield 19, 3) := by decide +kernel
theorem dX7_nextStep_4 : decode cX7_nextStep 4 = .ok (.getfield 74, 3) := by decide +kernel
theorem dX7_nextStep_7 : decode cX7_nextStep 7 = .ok (.getfield 78, 3) := by decide +kernel
theorem dX7_nextStep_10 : decode cX7_nextStep 10 = .ok (.ifCond .ne 6, 3) := by decide +kernel
theorem dX7_nextStep_13 : decode cX7_nextStep 13 = .ok (.bipush (-4), 2) := by decide +kernel
theorem dX7_nextStep_15 : decode cX7_nextStep 15 = .ok (.ireturn, 1) := by decide +kernel
theorem dX7_nextStep_16 : decode cX7_nextStep 16 = .ok (.aload_n 0, 1) := by decide +kernel
theorem dX7_nextStep_17 : decode cX7_nextStep 17 = .ok (.getfield 19, 3) := by decide +kernel
theorem dX7_nextStep_20 : decode cX7_nextStep 20 = .ok (.getfield 51, 3) := by decide +kernel
theorem dX7_nextStep_23 : decode cX7_nextStep 23 = .ok (.aload_n 0, 1) := by decide +kernel
theorem dX7_nextStep_24 : decode cX7_nextStep 24 = .ok (.getfield 19, 3) := by decide +kernel
theorem dX7_nextStep_27 : decode cX7_nextStep 27 = .ok (.getfield 51, 3) := by decide +kernel
theorem dX7_nextStep_30 : decode cX7_nextStep 30 = .ok (.getfield 108, 3) := by decide +kernel
theorem dX7_nextStep_33 : decode cX7_nextStep 33 = .ok (.invokevirtual 250, 3) := by decide +kernel
theorem dX7_nextStep_36 : decode cX7_nextStep 36 = .ok (.invokestatic 255, 3) := by decide +kernel
theorem dX7_nextStep_39 : decode cX7_nextStep 39 = .ok (.ireturn, 1) := by decide +kernel
theorem dX7_plan_0 : decode cX7_plan 0 = .ok (.iload_n 1, 1) := by decide +kernel
theorem dX7_plan_1 : decode cX7_plan 1 = .ok (.invokestatic 124, 3) := by decide +kernel
theorem dX7_plan_4 : decode cX7_plan 4 = .ok (.ifCond .ne 6, 3) := by decide +kernel
theorem dX7_plan_7 : decode cX7_plan 7 = .ok (.bipush (-2), 2) := by decide +kernel
theorem dX7_plan_9 : decode cX7_plan 9 = .ok (.ireturn, 1) := by decide +kernel
theorem dX7_plan_10 : decode cX7_plan 10 = .ok (.aload_n 0, 1) := by decide +kernel
theorem dX7_plan_11 : decode cX7_plan 11 = .ok (.getfield 19, 3) := by decide +kernel
theorem dX7_plan_14 : decode cX7_plan 14 = .ok (.getfield 74, 3) := by decide +kernel
theorem dX7_plan_17 : decode cX7_plan 17 = .ok (.getfield 78, 3) := by decide +kernel
theorem dX7_plan_20 : decode cX7_plan 20 = .ok (.ifCond .ne 16, 3) := by decide +kernel
theorem dX7_plan_23 : decode cX7_plan 23 = .ok (.aload_n 0, 1) := by decide +kernel
theorem dX7_plan_24 : decode cX7_plan 24 = .ok (.getfield 19, 3) := by decide +kernel
theorem dX7_plan_27 : decode cX7_plan 27 = .ok (.getfield 51, 3) := by decide +kernel
theorem dX7_plan_30 : decode cX7_plan 30 = .ok (.getfield 108, 3) := by decide +kernel
theorem dX7_plan_33 : decode cX7_plan 33 = .ok (.ifCond .ne 6, 3) := by decide +kernel
theorem dX7_plan_36 : decode cX7_plan 36 = .ok (.bipush (-4), 2) := by decide +kernel
theorem dX7_plan_38 : decode cX7_plan 38 = .ok (.ireturn, 1) := by decide +kernel
theorem dX7_plan_39 : decode cX7_plan 39 = .ok (.aload_n 0, 1) := by decide +kernel
theorem dX7_plan_40 : decode cX7_plan 40 = .ok (.getfield 32, 3) := by decide +kernel
theorem dX7_plan_43 : decode cX7_plan 43 = .ok (.aload_n 0, 1) := by decide +kernel
theorem dX7_plan_44 : decode cX7_plan 44 = .ok (.getfield 19, 3) := by decide +kernel
theorem dX7_plan_47 : decode cX7_plan 47 = .ok (.getfield 51, 3) := by decide +kernel
theorem dX7_plan_50 : decode cX7_plan 50 = .ok (.invokevirtual 353, 3) := by decide +kernel
theorem dX7_plan_53 : decode cX7_plan 53 = .ok (.aload_n 0, 1) := by decide +kernel
theorem dX7_plan_54 : decode cX7_plan 54 = .ok (.getfield 32, 3) := by decide +kernel
theorem dX7_plan_57 : decode cX7_plan 57 = .ok (.iload_n 1, 1) := by decide +kernel
theorem dX7_plan_58 : decode cX7_plan 58 = .ok (.putfield 175, 3) := by decide +kernel
theorem dX7_plan_61 : decode cX7_plan 61 = .ok (.aload_n 0, 1) := by decide +kernel
theorem dX7_plan_62 : decode cX7_plan 62 = .ok (.getfield 32, 3) := by decide +kernel
theorem dX7_plan_65 : decode cX7_plan 65 = .ok (.invokevirtual 356, 3) := by decide +kernel
theorem dX7_plan_68 : decode cX7_plan 68 = .ok (.ireturn, 1) := by decide +kernel
theorem dX7_differences_0 : decode cX7_differences 0 = .ok (.iload_n 1, 1) := by decide +kernel
theorem dX7_differences_1 : decode cX7_differences 1 = .ok (.tableswitch 84 0 4 #[35, 46, 57, 68, 76], 35) := by decide +kernel
theorem dX7_differences_36 : decode cX7_differences 36 = .ok (.aload_n 0, 1) := by decide +kernel
theorem dX7_differences_37 : decode cX7_differences 37 = .ok (.getfield 19, 3) := by decide +kernel
theorem dX7_differences_40 : decode cX7_differences 40 = .ok (.getfield 51, 3) := by decide +kernel
theorem dX7_differences_43 : decode cX7_differences 43 = .ok (.invokevirtual 359, 3) := by decide +kernel
theorem dX7_differences_46 : decode cX7_differences 46 = .ok (.ireturn, 1) := by decide +kernel
theorem dX7_differences_47 : decode cX7_differences 47 = .ok (.aload_n 0, 1) := by decide +kernel
theorem dX7_differences_48 : decode cX7_differences 48 = .ok (.getfield 19, 3) := by decide +kernel
theorem dX7_differences_51 : decode cX7_differences 51 = .ok (.getfield 51, 3) := by decide +kernel
theorem dX7_differences_54 : decode cX7_differences 54 = .ok (.invokevirtual 275, 3) := by decide +kernel
theorem dX7_differences_57 : decode cX7_differences 57 = .ok (.ireturn, 1) := by decide +kernel
theorem dX7_differences_58 : decode cX7_differences 58 = .ok (.aload_n 0, 1) := by decide +kernel
theorem dX7_differences_59 : decode cX7_differences 59 = .ok (.getfield 19, 3) := by decide +kernel
theorem dX7_differences_62 : decode cX7_differences 62 = .ok (.getfield 51, 3) := by decide +kernel
theorem dX7_differences_65 : decode cX7_differences 65 = .ok (.invokevirtual 362, 3) := by decide +kernel
theorem dX7_differences_68 : decode cX7_differences 68 = .ok (.ireturn, 1) := by decide +kernel
theorem dX7_differences_69 : decode cX7_differences 69 = .ok (.aload_n 0, 1) := by decide +kernel
theorem dX7_differences_70 : decode cX7_differences 70 = .ok (.getfield 19, 3) := by decide +kernel
theorem dX7_differences_73 : decode cX7_differences 73 = .ok (.invokevirtual 284, 3) := by decide +kernel
theorem dX7_differences_76 : decode cX7_differences 76 = .ok (.ireturn, 1) := by decide +kernel
theorem dX7_differences_77 : decode cX7_differences 77 = .ok (.aload_n 0, 1) := by decide +kernel
theorem dX7_differences_78 : decode cX7_differences 78 = .ok (.getfield 19, 3) := by decide +kernel
theorem dX7_differences_81 : decode cX7_differences 81 = .ok (.invokevirtual 365, 3) := by decide +kernel
theorem dX7_differences_84 : decode cX7_differences 84 = .ok (.ireturn, 1) := by decide +kernel
theorem dX7_differences_85 : decode cX7_differences 85 = .ok (.bipush (-2), 2) := by decide +kernel
theorem dX7_differences_87 : decode cX7_differences 87 = .ok (.ireturn, 1) := by decide +kernel
theorem dX7_logAt_0 : decode cX7_logAt 0 = .ok (.iload_n 1, 1) := by decide +kernel
theorem dX7_logAt_1 : decode cX7_logAt 1 = .ok (.ifCond .ge 6, 3) := by decide +kernel
theorem dX7_logAt_4 : decode cX7_logAt 4 = .ok (.bipush (-2), 2) := by decide +kernel
theorem dX7_logAt_6 : decode cX7_logAt 6 = .ok (.ireturn, 1) := by decide +kernel
theorem dX7_logAt_7 : decode cX7_logAt 7 = .ok (.iload_n 1, 1) := by decide +kernel
theorem dX7_logAt_8 : decode cX7_logAt 8 = .ok (.aload_n 0, 1) := by decide +kernel
theorem dX7_logAt_9 : decode cX7_logAt 9 = .ok (.getfield 19, 3) := by decide +kernel
theorem dX7_logAt_12 : decode cX7_logAt 12 = .ok (.getfield 368, 3) := by decide +kernel
theorem dX7_logAt_15 : decode cX7_logAt 15 = .ok (.getfield 372, 3) := by decide +kernel
theorem dX7_logAt_18 : decode cX7_logAt 18 = .ok (.if_icmp .lt 6, 3) := by decide +kernel
theorem dX7_logAt_21 : decode cX7_logAt 21 = .ok (.bipush (-5), 2) := by decide +kernel
theorem dX7_logAt_23 : decode cX7_logAt 23 = .ok (.ireturn, 1) := by decide +kernel
theorem dX7_logAt_24 : decode cX7_logAt 24 = .ok (.aload_n 0, 1) := by decide +kernel
theorem dX7_logAt_25 : decode cX7_logAt 25 = .ok (.getfield 19, 3) := by decide +kernel
theorem dX7_logAt_28 : decode cX7_logAt 28 = .ok (.getfield 368, 3) := by decide +kernel
theorem dX7_logAt_31 : decode cX7_logAt 31 = .ok (.getfield 375, 3) := by decide +kernel
theorem dX7_logAt_34 : decode cX7_logAt 34 = .ok (.iload_n 1, 1) := by decide +kernel
theorem dX7_logAt_35 : decode cX7_logAt 35 = .ok (.invokestatic 136, 3) := by decide +kernel
theorem dX7_logAt_38 : decode cX7_logAt 38 = .ok (.ireturn, 1) := by decide +kernel
theorem dX7_count_0 : decode cX7_count 0 = .ok (.iload_n 1, 1) := by decide +kernel
theorem dX7_count_1 : decode cX7_count 1 = .ok (.tableswitch 253 0 14 #[75, 86, 97, 108, 119, 137, 145, 153, 164, 175, 204, 215, 223, 231, 239], 75) := by decide +kernel
theorem dX7_count_76 : decode cX7_count 76 = .ok (.aload_n 0, 1) := by decide +kernel
theorem dX7_count_77 : decode cX7_count 77 = .ok (.getfield 19, 3) := by decide +kernel
theorem dX7_count_80 : decode cX7_count 80 = .ok (.getfield 51, 3) := by decide +kernel
theorem dX7_count_83 : decode cX7_count 83 = .ok (.getfield 84, 3) := by decide +kernel
theorem dX7_count_86 : decode cX7_count 86 = .ok (.ireturn, 1) := by decide +kernel
theorem dX7_count_87 : decode cX7_count 87 = .ok (.aload_n 0, 1) := by decide +kernel
theorem dX7_count_88 : decode cX7_count 88 = .ok (.getfield 19, 3) := by decide +kernel
theorem dX7_count_91 : decode cX7_count 91 = .ok (.getfield 51, 3) := by decide +kernel
theorem dX7_count_94 : decode cX7_count 94 = .ok (.getfield 91, 3) := by decide +kernel
theorem dX7_count_97 : decode cX7_count 97 = .ok (.ireturn, 1) := by decide +kernel
theorem dX7_count_98 : decode cX7_count 98 = .ok (.aload_n 0, 1) := by decide +kernel
theorem dX7_count_99 : decode cX7_count 99 = .ok (.getfield 19, 3) := by decide +kernel
theorem dX7_count_102 : decode cX7_count 102 = .ok (.getfield 51, 3) := by decide +kernel
theorem dX7_count_105 : decode cX7_count 105 = .ok (.getfield 102, 3) := by decide +kernel
theorem dX7_count_108 : decode cX7_count 108 = .ok (.ireturn, 1) := by decide +kernel
theorem dX7_count_109 : decode cX7_count 109 = .ok (.aload_n 0, 1) := by decide +kernel
theorem dX7_count_110 : decode cX7_count 110 = .ok (.getfield 19, 3) := by decide +kernel
theorem dX7_count_113 : decode cX7_count 113 = .ok (.getfield 120, 3) := by decide +kernel
theorem dX7_count_116 : decode cX7_count 116 = .ok (.getfield 128, 3) := by decide +kernel
theorem dX7_count_119 : decode cX7_count 119 = .ok (.ireturn, 1) := by decide +kernel
theorem dX7_count_120 : decode cX7_count 120 = .ok (.aload_n 0, 1) := by decide +kernel
theorem dX7_count_121 : decode cX7_count 121 = .ok (.getfield 19, 3) := by decide +kernel
theorem dX7_count_124 : decode cX7_count 124 = .ok (.getfield 120, 3) := by decide +kernel
theorem dX7_count_127 : decode cX7_count 127 = .ok (.aload_n 0, 1) := by decide +kernel
theorem dX7_count_128 : decode cX7_count 128 = .ok (.getfield 19, 3) := by decide +kernel
theorem dX7_count_131 : decode cX7_count 131 = .ok (.getfield 269, 3) := by decide +kernel
theorem dX7_count_134 : decode cX7_count 134 = .ok (.invokevirtual 376, 3) := by decide +kernel
theorem dX7_count_137 : decode cX7_count 137 = .ok (.ireturn, 1) := by decide +kernel
theorem dX7_count_138 : decode cX7_count 138 = .ok (.aload_n 0, 1) := by decide +kernel
theorem dX7_count_139 : decode cX7_count 139 = .ok (.getfield 19, 3) := by decide +kernel
theorem dX7_count_142 : decode cX7_count 142 = .ok (.getfield 269, 3) := by decide +kernel
theorem dX7_count_145 : decode cX7_count 145 = .ok (.ireturn, 1) := by decide +kernel
theorem dX7_count_146 : decode cX7_count 146 = .ok (.aload_n 0, 1) := by decide +kernel
theorem dX7_count_147 : decode cX7_count 147 = .ok (.getfield 19, 3) := by decide +kernel
theorem dX7_count_150 : decode cX7_count 150 = .ok (.getfield 117, 3) := by decide +kernel
theorem dX7_count_153 : decode cX7_count 153 = .ok (.ireturn, 1) := by decide +kernel
theorem dX7_count_154 : decode cX7_count 154 = .ok (.aload_n 0, 1) := by decide +kernel
theorem dX7_count_155 : decode cX7_count 155 = .ok (.getfield 19, 3) := by decide +kernel
theorem dX7_count_158 : decode cX7_count 158 = .ok (.getfield 154, 3) := by decide +kernel
theorem dX7_count_161 : decode cX7_count 161 = .ok (.getfield 158, 3) := by decide +kernel
theorem dX7_count_164 : decode cX7_count 164 = .ok (.ireturn, 1) := by decide +kernel
theorem dX7_count_165 : decode cX7_count 165 = .ok (.aload_n 0, 1) := by decide +kernel
theorem dX7_count_166 : decode cX7_count 166 = .ok (.getfield 19, 3) := by decide +kernel
theorem dX7_count_169 : decode cX7_count 169 = .ok (.getfield 154, 3) := by decide +kernel
theorem dX7_count_172 : decode cX7_count 172 = .ok (.invokevirtual 379, 3) := by decide +kernel
theorem dX7_count_175 : decode cX7_count 175 = .ok (.ireturn, 1) := by decide +kernel
theorem dX7_count_176 : decode cX7_count 176 = .ok (.aload_n 0, 1) := by decide +kernel
theorem dX7_count_177 : decode cX7_count 177 = .ok (.getfield 19, 3) := by decide +kernel
theorem dX7_count_180 : decode cX7_count 180 = .ok (.getfield 51, 3) := by decide +kernel
theorem dX7_count_183 : decode cX7_count 183 = .ok (.getfield 108, 3) := by decide +kernel
theorem dX7_count_186 : decode cX7_count 186 = .ok (.ifCond .ne 8, 3) := by decide +kernel
theorem dX7_count_189 : decode cX7_count 189 = .ok (.bipush (-5), 2) := by decide +kernel
theorem dX7_count_191 : decode cX7_count 191 = .ok (.goto 13, 3) := by decide +kernel
theorem dX7_count_194 : decode cX7_count 194 = .ok (.aload_n 0, 1) := by decide +kernel
theorem dX7_count_195 : decode cX7_count 195 = .ok (.getfield 19, 3) := by decide +kernel
theorem dX7_count_198 : decode cX7_count 198 = .ok (.getfield 51, 3) := by decide +kernel
theorem dX7_count_201 : decode cX7_count 201 = .ok (.getfield 108, 3) := by decide +kernel
theorem dX7_count_204 : decode cX7_count 204 = .ok (.ireturn, 1) := by decide +kernel
theorem dX7_count_205 : decode cX7_count 205 = .ok (.aload_n 0, 1) := by decide +kernel
theorem dX7_count_206 : decode cX7_count 206 = .ok (.getfield 19, 3) := by decide +kernel
theorem dX7_count_209 : decode cX7_count 209 = .ok (.getfield 368, 3) := by decide +kernel
theorem dX7_count_212 : decode cX7_count 212 = .ok (.getfield 372, 3) := by decide +kernel
theorem dX7_count_215 : decode cX7_count 215 = .ok (.ireturn, 1) := by decide +kernel
theorem dX7_count_216 : decode cX7_count 216 = .ok (.aload_n 0, 1) := by decide +kernel
theorem dX7_count_217 : decode cX7_count 217 = .ok (.getfield 10, 3) := by decide +kernel
theorem dX7_count_220 : decode cX7_count 220 = .ok (.getfield 40, 3) := by decide +kernel
theorem dX7_count_223 : decode cX7_count 223 = .ok (.ireturn, 1) := by decide +kernel
theorem dX7_count_224 : decode cX7_count 224 = .ok (.aload_n 0, 1) := by decide +kernel
theorem dX7_count_225 : decode cX7_count 225 = .ok (.getfield 19, 3) := by decide +kernel
theorem dX7_count_228 : decode cX7_count 228 = .ok (.getfield 111, 3) := by decide +kernel
theorem dX7_count_231 : decode cX7_count 231 = .ok (.ireturn, 1) := by decide +kernel
theorem dX7_count_232 : decode cX7_count 232 = .ok (.aload_n 0, 1) := by decide +kernel
theorem dX7_count_233 : decode cX7_count 233 = .ok (.getfield 19, 3) := by decide +kernel
theorem dX7_count_236 : decode cX7_count 236 = .ok (.getfield 114, 3) := by decide +kernel
theorem dX7_count_239 : decode cX7_count 239 = .ok (.ireturn, 1) := by decide +kernel
theorem dX7_count_240 : decode cX7_count 240 = .ok (.aload_n 0, 1) := by decide +kernel
theorem dX7_count_241 : decode cX7_count 241 = .ok (.getfield 19, 3) := by decide +kernel
theorem dX7_count_244 : decode cX7_count 244 = .ok (.getfield 74, 3) := by decide +kernel
theorem dX7_count_247 : decode cX7_count 247 = .ok (.getfield 78, 3) := by decide +kernel
theorem dX7_count_250 : decode cX7_count 250 = .ok (.invokestatic 308, 3) := by decide +kernel
theorem dX7_count_253 : decode cX7_count 253 = .ok (.ireturn, 1) := by decide +kernel
theorem dX7_count_254 : decode cX7_count 254 = .ok (.bipush (-2), 2) := by decide +kernel
theorem dX7_count_256 : decode cX7_count 256 = .ok (.ireturn, 1) := by decide +kernel
theorem dX7_slotState_0 : decode cX7_slotState 0 = .ok (.iload_n 1, 1) := by decide +kernel
theorem dX7_slotState_1 : decode cX7_slotState 1 = .ok (.ifCond .ne 10, 3) := by decide +kernel
theorem dX7_slotState_4 : decode cX7_slotState 4 = .ok (.aload_n 0, 1) := by decide +kernel
theorem dX7_slotState_5 : decode cX7_slotState 5 = .ok (.getfield 23, 3) := by decide +kernel
theorem dX7_slotState_8 : decode cX7_slotState 8 = .ok (.goto 7, 3) := by decide +kernel
theorem dX7_slotState_11 : decode cX7_slotState 11 = .ok (.aload_n 0, 1) := by decide +kernel
theorem dX7_slotState_12 : decode cX7_slotState 12 = .ok (.getfield 26, 3) := by decide +kernel
theorem dX7_slotState_15 : decode cX7_slotState 15 = .ok (.areturn, 1) := by decide +kernel
theorem dX7_isSlot_0 : decode cX7_isSlot 0 = .ok (.iload_n 0, 1) := by decide +kernel
theorem dX7_isSlot_1 : decode cX7_isSlot 1 = .ok (.ifCond .eq 8, 3) := by decide +kernel
theorem dX7_isSlot_4 : decode cX7_isSlot 4 = .ok (.iload_n 0, 1) := by decide +kernel
theorem dX7_isSlot_5 : decode cX7_isSlot 5 = .ok (.iconst 1, 1) := by decide +kernel
theorem dX7_isSlot_6 : decode cX7_isSlot 6 = .ok (.if_icmp .ne 7, 3) := by decide +kernel
theorem dX7_isSlot_9 : decode cX7_isSlot 9 = .ok (.iconst 1, 1) := by decide +kernel
theorem dX7_isSlot_10 : decode cX7_isSlot 10 = .ok (.goto 4, 3) := by decide +kernel
theorem dX7_isSlot_13 : decode cX7_isSlot 13 = .ok (.iconst 0, 1) := by decide +kernel
theorem dX7_isSlot_14 : decode cX7_isSlot 14 = .ok (.ireturn, 1) := by decide +kernel
theorem dX7_isGroupSize_0 : decode cX7_isGroupSize 0 = .ok (.iload_n 0, 1) := by decide +kernel
theorem dX7_isGroupSize_1 : decode cX7_isGroupSize 1 = .ok (.iconst 1, 1) := by decide +kernel
theorem dX7_isGroupSize_2 : decode cX7_isGroupSize 2 = .ok (.if_icmp .lt 13, 3) := by decide +kernel
theorem dX7_isGroupSize_5 : decode cX7_isGroupSize 5 = .ok (.iload_n 0, 1) := by decide +kernel
theorem dX7_isGroupSize_6 : decode cX7_isGroupSize 6 = .ok (.bipush 6, 2) := by decide +kernel
theorem dX7_isGroupSize_8 : decode cX7_isGroupSize 8 = .ok (.if_icmp .gt 7, 3) := by decide +kernel
theorem dX7_isGroupSize_11 : decode cX7_isGroupSize 11 = .ok (.iconst 1, 1) := by decide +kernel
theorem dX7_isGroupSize_12 : decode cX7_isGroupSize 12 = .ok (.goto 4, 3) := by decide +kernel
theorem dX7_isGroupSize_15 : decode cX7_isGroupSize 15 = .ok (.iconst 0, 1) := by decide +kernel
theorem dX7_isGroupSize_16 : decode cX7_isGroupSize 16 = .ok (.ireturn, 1) := by decide +kernel
theorem dX7_asNumber_0 : decode cX7_asNumber 0 = .ok (.iload_n 0, 1) := by decide +kernel
theorem dX7_asNumber_1 : decode cX7_asNumber 1 = .ok (.ifCond .eq 7, 3) := by decide +kernel
theorem dX7_asNumber_4 : decode cX7_asNumber 4 = .ok (.iconst 1, 1) := by decide +kernel
theorem dX7_asNumber_5 : decode cX7_asNumber 5 = .ok (.goto 4, 3) := by decide +kernel
theorem dX7_asNumber_8 : decode cX7_asNumber 8 = .ok (.iconst 0, 1) := by decide +kernel
theorem dX7_asNumber_9 : decode cX7_asNumber 9 = .ok (.ireturn, 1) := by decide +kernel
theorem dX7_actMinutes_0 : decode cX7_actMinutes 0 = .ok (.iconst 1, 1) := by decide +kernel
theorem dX7_actMinutes_1 : decode cX7_actMinutes 1 = .ok (.iload_n 0, 1) := by decide +kernel
theorem dX7_actMinutes_2 : decode cX7_actMinutes 2 = .ok (.iload_n 1, 1) := by decide +kernel
theorem dX7_actMinutes_3 : decode cX7_actMinutes 3 = .ok (.iconst 2, 1) := by decide +kernel
theorem dX7_actMinutes_4 : decode cX7_actMinutes 4 = .ok (.idiv, 1) := by decide +kernel
theorem dX7_actMinutes_5 : decode cX7_actMinutes 5 = .ok (.isub, 1) := by decide +kernel
theorem dX7_actMinutes_6 : decode cX7_actMinutes 6 = .ok (.invokestatic 382, 3) := by decide +kernel
theorem dX7_actMinutes_9 : decode cX7_actMinutes 9 = .ok (.ireturn, 1) := by decide +kernel
theorem dX7_toldStep_0 : decode cX7_toldStep 0 = .ok (.iload_n 0, 1) := by decide +kernel
theorem dX7_toldStep_1 : decode cX7_toldStep 1 = .ok (.invokestatic 258, 3) := by decide +kernel
theorem dX7_toldStep_4 : decode cX7_toldStep 4 = .ok (.sipush 500, 3) := by decide +kernel
theorem dX7_toldStep_7 : decode cX7_toldStep 7 = .ok (.if_icmp .ne 11, 3) := by decide +kernel
theorem dX7_toldStep_10 : decode cX7_toldStep 10 = .ok (.iload_n 0, 1) := by decide +kernel
theorem dX7_toldStep_11 : decode cX7_toldStep 11 = .ok (.sipush 1000, 3) := by decide +kernel
theorem dX7_toldStep_14 : decode cX7_toldStep 14 = .ok (.irem, 1) := by decide +kernel
theorem dX7_toldStep_15 : decode cX7_toldStep 15 = .ok (.goto 4, 3) := by decide +kernel
theorem dX7_toldStep_18 : decode cX7_toldStep 18 = .ok (.iload_n 0, 1) := by decide +kernel
theorem dX7_toldStep_19 : decode cX7_toldStep 19 = .ok (.ireturn, 1) := by decide +kernel
theorem dX7_stepKind_0 : decode cX7_stepKind 0 = .ok (.iload_n 0, 1) := by decide +kernel
theorem dX7_stepKind_1 : decode cX7_stepKind 1 = .ok (.sipush 1000, 3) := by decide +kernel
theorem dX7_stepKind_4 : decode cX7_stepKind 4 = .ok (.irem, 1) := by decide +kernel
theorem dX7_stepKind_5 : decode cX7_stepKind 5 = .ok (.bipush 100, 2) := by decide +kernel
theorem dX7_stepKind_7 : decode cX7_stepKind 7 = .ok (.idiv, 1) := by decide +kernel
theorem dX7_stepKind_8 : decode cX7_stepKind 8 = .ok (.bipush 100, 2) := by decide +kernel
theorem dX7_stepKind_10 : decode cX7_stepKind 10 = .ok (.imul, 1) := by decide +kernel
theorem dX7_stepKind_11 : decode cX7_stepKind 11 = .ok (.ireturn, 1) := by decide +kernel
theorem dX7_at_0 : decode cX7_at 0 = .ok (.aload_n 0, 1) := by decide +kernel
theorem dX7_at_1 : decode cX7_at 1 = .ok (.ifnull 19, 3) := by decide +kernel
theorem dX7_at_4 : decode cX7_at 4 = .ok (.iload_n 1, 1) := by decide +kernel
theorem dX7_at_5 : decode cX7_at 5 = .ok (.ifCond .lt 15, 3) := by decide +kernel
theorem dX7_at_8 : decode cX7_at 8 = .ok (.iload_n 1, 1) := by decide +kernel
theorem dX7_at_9 : decode cX7_at 9 = .ok (.aload_n 0, 1) := by decide +kernel
theorem dX7_at_10 : decode cX7_at 10 = .ok (.arraylength, 1) := by decide +kernel
theorem dX7_at_11 : decode cX7_at 11 = .ok (.if_icmp .ge 9, 3) := by decide +kernel
theorem dX7_at_14 : decode cX7_at 14 = .ok (.aload_n 0, 1) := by decide +kernel
theorem dX7_at_15 : decode cX7_at 15 = .ok (.iload_n 1, 1) := by decide +kernel
theorem dX7_at_16 : decode cX7_at 16 = .ok (.iaload, 1) := by decide +kernel
theorem dX7_at_17 : decode cX7_at 17 = .ok (.goto 4, 3) := by decide +kernel
theorem dX7_at_20 : decode cX7_at 20 = .ok (.iconst 0, 1) := by decide +kernel
theorem dX7_at_21 : decode cX7_at 21 = .ok (.ireturn, 1) := by decide +kernel
theorem dX7_put_0 : decode cX7_put 0 = .ok (.aload_n 0, 1) := by decide +kernel
theorem dX7_put_1 : decode cX7_put 1 = .ok (.ifnull 17, 3) := by decide +kernel
theorem dX7_put_4 : decode cX7_put 4 = .ok (.iload_n 1, 1) := by decide +kernel
theorem dX7_put_5 : decode cX7_put 5 = .ok (.ifCond .lt 13, 3) := by decide +kernel
theorem dX7_put_8 : decode cX7_put 8 = .ok (.iload_n 1, 1) := by decide +kernel
theorem dX7_put_9 : decode cX7_put 9 = .ok (.aload_n 0, 1) := by decide +kernel
theorem dX7_put_10 : decode cX7_put 10 = .ok (.arraylength, 1) := by decide +kernel
theorem dX7_put_11 : decode cX7_put 11 = .ok (.if_icmp .ge 7, 3) := by decide +kernel
theorem dX7_put_14 : decode cX7_put 14 = .ok (.aload_n 0, 1) := by decide +kernel
theorem dX7_put_15 : decode cX7_put 15 = .ok (.iload_n 1, 1) := by decide +kernel
theorem dX7_put_16 : decode cX7_put 16 = .ok (.iload_n 2, 1) := by decide +kernel
theorem dX7_put_17 : decode cX7_put 17 = .ok (.iastore, 1) := by decide +kernel
theorem dX7_put_18 : decode cX7_put 18 = .ok (.return_, 1) := by decide +kernel
theorem dX7_copyRow_0 : decode cX7_copyRow 0 = .ok (.aload_n 0, 1) := by decide +kernel
theorem dX7_copyRow_1 : decode cX7_copyRow 1 = .ok (.ifnull 7, 3) := by decide +kernel
theorem dX7_copyRow_4 : decode cX7_copyRow 4 = .ok (.aload_n 1, 1) := by decide +kernel
theorem dX7_copyRow_5 : decode cX7_copyRow 5 = .ok (.ifnonnull 4, 3) := by decide +kernel
theorem dX7_copyRow_8 : decode cX7_copyRow 8 = .ok (.return_, 1) := by decide +kernel
theorem dX7_copyRow_9 : decode cX7_copyRow 9 = .ok (.iconst 0, 1) := by decide +kernel
theorem dX7_copyRow_10 : decode cX7_copyRow 10 = .ok (.istore_n 2, 1) := by decide +kernel
theorem dX7_copyRow_11 : decode cX7_copyRow 11 = .ok (.iload_n 2, 1) := by decide +kernel
theorem dX7_copyRow_12 : decode cX7_copyRow 12 = .ok (.aload_n 0, 1) := by decide +kernel
theorem dX7_copyRow_13 : decode cX7_copyRow 13 = .ok (.arraylength, 1) := by decide +kernel
theorem dX7_copyRow_14 : decode cX7_copyRow 14 = .ok (.if_icmp .ge 21, 3) := by decide +kernel
theorem dX7_copyRow_17 : decode cX7_copyRow 17 = .ok (.iload_n 2, 1) := by decide +kernel
theorem dX7_copyRow_18 : decode cX7_copyRow 18 = .ok (.aload_n 1, 1) := by decide +kernel
theorem dX7_copyRow_19 : decode cX7_copyRow 19 = .ok (.arraylength, 1) := by decide +kernel
theorem dX7_copyRow_20 : decode cX7_copyRow 20 = .ok (.if_icmp .ge 15, 3) := by decide +kernel
theorem dX7_copyRow_23 : decode cX7_copyRow 23 = .ok (.aload_n 1, 1) := by decide +kernel
theorem dX7_copyRow_24 : decode cX7_copyRow 24 = .ok (.iload_n 2, 1) := by decide +kernel
theorem dX7_copyRow_25 : decode cX7_copyRow 25 = .ok (.aload_n 0, 1) := by decide +kernel
theorem dX7_copyRow_26 : decode cX7_copyRow 26 = .ok (.iload_n 2, 1) := by decide +kernel
theorem dX7_copyRow_27 : decode cX7_copyRow 27 = .ok (.iaload, 1) := by decide +kernel
theorem dX7_copyRow_28 : decode cX7_copyRow 28 = .ok (.iastore, 1) := by decide +kernel
theorem dX7_copyRow_29 : decode cX7_copyRow 29 = .ok (.iinc 2 1, 3) := by decide +kernel
theorem dX7_copyRow_32 : decode cX7_copyRow 32 = .ok (.goto (-21), 3) := by decide +kernel
theorem dX7_copyRow_35 : decode cX7_copyRow 35 = .ok (.return_, 1) := by decide +kernel
end
section
theorem dX8_init_0 : decode cX8_init 0 = .ok (.aload_n 0, 1) := by decide +kernel
theorem dX8_init_1 : decode cX8_init 1 = .ok (.invokespecial 1, 3) := by decide +kernel
theorem dX8_init_4 : decode cX8_init 4 = .ok (.aload_n 0, 1) := by decide +kernel
theorem dX8_init_5 : decode cX8_init 5 = .ok (.sipush 902, 3) := by decide +kernel
theorem dX8_init_8 : decode cX8_init 8 = .ok (.newarray .int, 2) := by decide +kernel
theorem dX8_init_10 : decode cX8_init 10 = .ok (.putfield 7, 3) := by decide +kernel
theorem dX8_init_13 : decode cX8_init 13 = .ok (.aload_n 0, 1) := by decide +kernel
theorem dX8_init_14 : decode cX8_init 14 = .ok (.sipush 902, 3) := by decide +kernel
theorem dX8_init_17 : decode cX8_init 17 = .ok (.newarray .int, 2) := by decide +kernel
theorem dX8_init_19 : decode cX8_init 19 = .ok (.putfield 13, 3) := by decide +kernel
theorem dX8_init_22 : decode cX8_init 22 = .ok (.aload_n 0, 1) := by decide +kernel
theorem dX8_init_23 : decode cX8_init 23 = .ok (.sipush 1804, 3) := by decide +kernel
theorem dX8_init_26 : decode cX8_init 26 = .ok (.newarray .int, 2) := by decide +kernel
theorem dX8_init_28 : decode cX8_init 28 = .ok (.putfield 16, 3) := by decide +kernel
theorem dX8_init_31 : decode cX8_init 31 = .ok (.aload_n 0, 1) := by decide +kernel
theorem dX8_init_32 : decode cX8_init 32 = .ok (.iconst 2, 1) := by decide +kernel
theorem dX8_init_33 : decode cX8_init 33 = .ok (.newarray .boolean, 2) := by decide +kernel
theorem dX8_init_35 : decode cX8_init 35 = .ok (.putfield 19, 3) := by decide +kernel
theorem dX8_init_38 : decode cX8_init 38 = .ok (.aload_n 0, 1) := by decide +kernel
theorem dX8_init_39 : decode cX8_init 39 = .ok (.bipush 20, 2) := by decide +kernel
theorem dX8_init_41 : decode cX8_init 41 = .ok (.newarray .char, 2) := by decide +kernel
theorem dX8_init_43 : decode cX8_init 43 = .ok (.putfield 23, 3) := by decide +kernel
theorem dX8_init_46 : decode cX8_init 46 = .ok (.aload_n 0, 1) := by decide +kernel
theorem dX8_init_47 : decode cX8_init 47 = .ok (.bipush 24, 2) := by decide +kernel
theorem dX8_init_49 : decode cX8_init 49 = .ok (.newarray .int, 2) := by decide +kernel
theorem dX8_init_51 : decode cX8_init 51 = .ok (.putfield 27, 3) := by decide +kernel
theorem dX8_init_54 : decode cX8_init 54 = .ok (.aload_n 0, 1) := by decide +kernel
theorem dX8_init_55 : decode cX8_init 55 = .ok (.getfield 7, 3) := by decide +kernel
theorem dX8_init_58 : decode cX8_init 58 = .ok (.iconst 0, 1) := by decide +kernel
theorem dX8_init_59 : decode cX8_init 59 = .ok (.iconst 1, 1) := by decide +kernel
theorem dX8_init_60 : decode cX8_init 60 = .ok (.iastore, 1) := by decide +kernel
theorem dX8_init_61 : decode cX8_init 61 = .ok (.aload_n 0, 1) := by decide +kernel
theorem dX8_init_62 : decode cX8_init 62 = .ok (.getfield 7, 3) := by decide +kernel
theorem dX8_init_65 : decode cX8_init 65 = .ok (.bipush 56, 2) := by decide +kernel
theorem dX8_init_67 : decode cX8_init 67 = .ok (.iconst 1, 1) := by decide +kernel
theorem dX8_init_68 : decode cX8_init 68 = .ok (.iastore, 1) := by decide +kernel
theorem dX8_init_69 : decode cX8_init 69 = .ok (.aload_n 0, 1) := by decide +kernel
theorem dX8_init_70 : decode cX8_init 70 = .ok (.getfield 7, 3) := by decide +kernel
theorem dX8_init_73 : decode cX8_init 73 = .ok (.bipush 6, 2) := by decide +kernel
theorem dX8_init_75 : decode cX8_init 75 = .ok (.bipush 60, 2) := by decide +kernel
theorem dX8_init_77 : decode cX8_init 77 = .ok (.iastore, 1) := by decide +kernel
theorem dX8_init_78 : decode cX8_init 78 = .ok (.aload_n 0, 1) := by decide +kernel
theorem dX8_init_79 : decode cX8_init 79 = .ok (.getfield 7, 3) := by decide +kernel
theorem dX8_init_82 : decode cX8_init 82 = .ok (.bipush 7, 2) := by decide +kernel
theorem dX8_init_84 : decode cX8_init 84 = .ok (.iconst 3, 1) := by decide +kernel
theorem dX8_init_85 : decode cX8_init 85 = .ok (.iastore, 1) := by decide +kernel
theorem dX8_init_86 : decode cX8_init 86 = .ok (.return_, 1) := by decide +kernel
theorem dX8_in_0 : decode cX8_in 0 = .ok (.iload_n 0, 1) := by decide +kernel
theorem dX8_in_1 : decode cX8_in 1 = .ok (.iload_n 1, 1) := by decide +kernel
theorem dX8_in_2 : decode cX8_in 2 = .ok (.if_icmp .lt 12, 3) := by decide +kernel
theorem dX8_in_5 : decode cX8_in 5 = .ok (.iload_n 0, 1) := by decide +kernel
theorem dX8_in_6 : decode cX8_in 6 = .ok (.iload_n 2, 1) := by decide +kernel
theorem dX8_in_7 : decode cX8_in 7 = .ok (.if_icmp .gt 7, 3) := by decide +kernel
theorem dX8_in_10 : decode cX8_in 10 = .ok (.iconst 1, 1) := by decide +kernel
theorem dX8_in_11 : decode cX8_in 11 = .ok (.goto 4, 3) := by decide +kernel
theorem dX8_in_14 : decode cX8_in 14 = .ok (.iconst 0, 1) := by decide +kernel
theorem dX8_in_15 : decode cX8_in 15 = .ok (.ireturn, 1) := by decide +kernel
theorem dX8_keep_0 : decode cX8_keep 0 = .ok (.iload_n 1, 1) := by decide +kernel
theorem dX8_keep_1 : decode cX8_keep 1 = .ok (.iconst 0, 1) := by decide +kernel
theorem dX8_keep_2 : decode cX8_keep 2 = .ok (.iconst 1, 1) := by decide +kernel
theorem dX8_keep_3 : decode cX8_keep 3 = .ok (.invokestatic 30, 3) := by decide +kernel
theorem dX8_keep_6 : decode cX8_keep 6 = .ok (.ifCond .ne 5, 3) := by decide +kernel
theorem dX8_keep_9 : decode cX8_keep 9 = .ok (.iconst (-1), 1) := by decide +kernel
theorem dX8_keep_10 : decode cX8_keep 10 = .ok (.ireturn, 1) := by decide +kernel
theorem dX8_keep_11 : decode cX8_keep 11 = .ok (.aload_n 0, 1) := by decide +kernel
theorem dX8_keep_12 : decode cX8_keep 12 = .ok (.getfield 19, 3) := by decide +kernel
theorem dX8_keep_15 : decode cX8_keep 15 = .ok (.iload_n 1, 1) := by decide +kernel
theorem dX8_keep_16 : decode cX8_keep 16 = .ok (.iconst 1, 1) := by decide +kernel
theorem dX8_keep_17 : decode cX8_keep 17 = .ok (.bastore, 1) := by decide +kernel
theorem dX8_keep_18 : decode cX8_keep 18 = .ok (.iconst 0, 1) := by decide +kernel
theorem dX8_keep_19 : decode cX8_keep 19 = .ok (.istore_n 2, 1) := by decide +kernel
theorem dX8_keep_20 : decode cX8_keep 20 = .ok (.iload_n 2, 1) := by decide +kernel
theorem dX8_keep_21 : decode cX8_keep 21 = .ok (.sipush 902, 3) := by decide +kernel
theorem dX8_keep_24 : decode cX8_keep 24 = .ok (.if_icmp .ge 27, 3) := by decide +kernel
theorem dX8_keep_27 : decode cX8_keep 27 = .ok (.aload_n 0, 1) := by decide +kernel
theorem dX8_keep_28 : decode cX8_keep 28 = .ok (.getfield 16, 3) := by decide +kernel
theorem dX8_keep_31 : decode cX8_keep 31 = .ok (.sipush 902, 3) := by decide +kernel
theorem dX8_keep_34 : decode cX8_keep 34 = .ok (.iload_n 1, 1) := by decide +kernel
theorem dX8_keep_35 : decode cX8_keep 35 = .ok (.imul, 1) := by decide +kernel
theorem dX8_keep_36 : decode cX8_keep 36 = .ok (.iload_n 2, 1) := by decide +kernel
theorem dX8_keep_37 : decode cX8_keep 37 = .ok (.iadd, 1) := by decide +kernel
theorem dX8_keep_38 : decode cX8_keep 38 = .ok (.aload_n 0, 1) := by decide +kernel
theorem dX8_keep_39 : decode cX8_keep 39 = .ok (.getfield 7, 3) := by decide +kernel
theorem dX8_keep_42 : decode cX8_keep 42 = .ok (.iload_n 2, 1) := by decide +kernel
theorem dX8_keep_43 : decode cX8_keep 43 = .ok (.iaload, 1) := by decide +kernel
theorem dX8_keep_44 : decode cX8_keep 44 = .ok (.iastore, 1) := by decide +kernel
theorem dX8_keep_45 : decode cX8_keep 45 = .ok (.iinc 2 1, 3) := by decide +kernel
theorem dX8_keep_48 : decode cX8_keep 48 = .ok (.goto (-28), 3) := by decide +kernel
theorem dX8_keep_51 : decode cX8_keep 51 = .ok (.aload_n 0, 1) := by decide +kernel
theorem dX8_keep_52 : decode cX8_keep 52 = .ok (.getfield 7, 3) := by decide +kernel
theorem dX8_keep_55 : decode cX8_keep 55 = .ok (.bipush 9, 2) := by decide +kernel
theorem dX8_keep_57 : decode cX8_keep 57 = .ok (.iaload, 1) := by decide +kernel
theorem dX8_keep_58 : decode cX8_keep 58 = .ok (.ireturn, 1) := by decide +kernel
theorem dX8_restore_0 : decode cX8_restore 0 = .ok (.iload_n 1, 1) := by decide +kernel
theorem dX8_restore_1 : decode cX8_restore 1 = .ok (.iconst 0, 1) := by decide +kernel
theorem dX8_restore_2 : decode cX8_restore 2 = .ok (.iconst 1, 1) := by decide +kernel
theorem dX8_restore_3 : decode cX8_restore 3 = .ok (.invokestatic 30, 3) := by decide +kernel
theorem dX8_restore_6 : decode cX8_restore 6 = .ok (.ifCond .ne 5, 3) := by decide +kernel
theorem dX8_restore_9 : decode cX8_restore 9 = .ok (.iconst (-1), 1) := by decide +kernel
theorem dX8_restore_10 : decode cX8_restore 10 = .ok (.ireturn, 1) := by decide +kernel
theorem dX8_restore_11 : decode cX8_restore 11 = .ok (.aload_n 0, 1) := by decide +kernel
theorem dX8_restore_12 : decode cX8_restore 12 = .ok (.getfield 19, 3) := by decide +kernel
theorem dX8_restore_15 : decode cX8_restore 15 = .ok (.iload_n 1, 1) := by decide +kernel
theorem dX8_restore_16 : decode cX8_restore 16 = .ok (.baload, 1) := by decide +kernel
theorem dX8_restore_17 : decode cX8_restore 17 = .ok (.ifCond .ne 6, 3) := by decide +kernel
theorem dX8_restore_20 : decode cX8_restore 20 = .ok (.bipush (-5), 2) := by decide +kernel
theorem dX8_restore_22 : decode cX8_restore 22 = .ok (.ireturn, 1) := by decide +kernel
theorem dX8_restore_23 : decode cX8_restore 23 = .ok (.iconst 0, 1) := by decide +kernel
theorem dX8_restore_24 : decode cX8_restore 24 = .ok (.istore_n 2, 1) := by decide +kernel
theorem dX8_restore_25 : decode cX8_restore 25 = .ok (.iload_n 2, 1) := by decide +kernel
theorem dX8_restore_26 : decode cX8_restore 26 = .ok (.sipush 902, 3) := by decide +kernel
theorem dX8_restore_29 : decode cX8_restore 29 = .ok (.if_icmp .ge 27, 3) := by decide +kernel
theorem dX8_restore_32 : decode cX8_restore 32 = .ok (.aload_n 0, 1) := by decide +kernel
theorem dX8_restore_33 : decode cX8_restore 33 = .ok (.getfield 7, 3) := by decide +kernel
theorem dX8_restore_36 : decode cX8_restore 36 = .ok (.iload_n 2, 1) := by decide +kernel
theorem dX8_restore_37 : decode cX8_restore 37 = .ok (.aload_n 0, 1) := by decide +kernel
theorem dX8_restore_38 : decode cX8_restore 38 = .ok (.getfield 16, 3) := by decide +kernel
theorem dX8_restore_41 : decode cX8_restore 41 = .ok (.sipush 902, 3) := by decide +kernel
theorem dX8_restore_44 : decode cX8_restore 44 = .ok (.iload_n 1, 1) := by decide +kernel
theorem dX8_restore_45 : decode cX8_restore 45 = .ok (.imul, 1) := by decide +kernel
theorem dX8_restore_46 : decode cX8_restore 46 = .ok (.iload_n 2, 1) := by decide +kernel
theorem dX8_restore_47 : decode cX8_restore 47 = .ok (.iadd, 1) := by decide +kernel
theorem dX8_restore_48 : decode cX8_restore 48 = .ok (.iaload, 1) := by decide +kernel
theorem dX8_restore_49 : decode cX8_restore 49 = .ok (.iastore, 1) := by decide +kernel
theorem dX8_restore_50 : decode cX8_restore 50 = .ok (.iinc 2 1, 3) := by decide +kernel
theorem dX8_restore_53 : decode cX8_restore 53 = .ok (.goto (-28), 3) := by decide +kernel
theorem dX8_restore_56 : decode cX8_restore 56 = .ok (.aload_n 0, 1) := by decide +kernel
theorem dX8_restore_57 : decode cX8_restore 57 = .ok (.getfield 7, 3) := by decide +kernel
theorem dX8_restore_60 : decode cX8_restore 60 = .ok (.bipush 9, 2) := by decide +kernel
theorem dX8_restore_62 : decode cX8_restore 62 = .ok (.iaload, 1) := by decide +kernel
theorem dX8_restore_63 : decode cX8_restore 63 = .ok (.ireturn, 1) := by decide +kernel
theorem dX8_plays_0 : decode cX8_plays 0 = .ok (.aload_n 0, 1) := by decide +kernel
theorem dX8_plays_1 : decode cX8_plays 1 = .ok (.getfield 7, 3) := by decide +kernel
theorem dX8_plays_4 : decode cX8_plays 4 = .ok (.bipush 10, 2) := by decide +kernel
theorem dX8_plays_6 : decode cX8_plays 6 = .ok (.iaload, 1) := by decide +kernel
theorem dX8_plays_7 : decode cX8_plays 7 = .ok (.iconst 1, 1) := by decide +kernel
theorem dX8_plays_8 : decode cX8_plays 8 = .ok (.if_icmp .ne 7, 3) := by decide +kernel
theorem dX8_plays_11 : decode cX8_plays 11 = .ok (.iconst 1, 1) := by decide +kernel
theorem dX8_plays_12 : decode cX8_plays 12 = .ok (.goto 4, 3) := by decide +kernel
theorem dX8_plays_15 : decode cX8_plays 15 = .ok (.iconst 0, 1) := by decide +kernel
theorem dX8_plays_16 : decode cX8_plays 16 = .ok (.ireturn, 1) := by decide +kernel
theorem dX8_noBox_0 : decode cX8_noBox 0 = .ok (.iload_n 1, 1) := by decide +kernel
theorem dX8_noBox_1 : decode cX8_noBox 1 = .ok (.iconst 0, 1) := by decide +kernel
theorem dX8_noBox_2 : decode cX8_noBox 2 = .ok (.aload_n 0, 1) := by decide +kernel
theorem dX8_noBox_3 : decode cX8_noBox 3 = .ok (.getfield 7, 3) := by decide +kernel
theorem dX8_noBox_6 : decode cX8_noBox 6 = .ok (.iconst 0, 1) := by decide +kernel
theorem dX8_noBox_7 : decode cX8_noBox 7 = .ok (.iaload, 1) := by decide +kernel
theorem dX8_noBox_8 : decode cX8_noBox 8 = .ok (.iconst 1, 1) := by decide +kernel
theorem dX8_noBox_9 : decode cX8_noBox 9 = .ok (.isub, 1) := by decide +kernel
theorem dX8_noBox_10 : decode cX8_noBox 10 = .ok (.invokestatic 30, 3) := by decide +kernel
theorem dX8_noBox_13 : decode cX8_noBox 13 = .ok (.ifCond .ne 7, 3) := by decide +kernel
theorem dX8_noBox_16 : decode cX8_noBox 16 = .ok (.iconst 1, 1) := by decide +kernel
theorem dX8_noBox_17 : decode cX8_noBox 17 = .ok (.goto 4, 3) := by decide +kernel
theorem dX8_noBox_20 : decode cX8_noBox 20 = .ok (.iconst 0, 1) := by decide +kernel
theorem dX8_noBox_21 : decode cX8_noBox 21 = .ok (.ireturn, 1) := by decide +kernel
theorem dX8_noProp_0 : decode cX8_noProp 0 = .ok (.iload_n 1, 1) := by decide +kernel
theorem dX8_noProp_1 : decode cX8_noProp 1 = .ok (.iconst 0, 1) := by decide +kernel
theorem dX8_noProp_2 : decode cX8_noProp 2 = .ok (.aload_n 0, 1) := by decide +kernel
theorem dX8_noProp_3 : decode cX8_noProp 3 = .ok (.getfield 7, 3) := by decide +kernel
theorem dX8_noProp_6 : decode cX8_noProp 6 = .ok (.iconst 1, 1) := by decide +kernel
theorem dX8_noProp_7 : decode cX8_noProp 7 = .ok (.iaload, 1) := by decide +kernel
theorem dX8_noProp_8 : decode cX8_noProp 8 = .ok (.iconst 1, 1) := by decide +kernel
theorem dX8_noProp_9 : decode cX8_noProp 9 = .ok (.isub, 1) := by decide +kernel
theorem dX8_noProp_10 : decode cX8_noProp 10 = .ok (.invokestatic 30, 3) := by decide +kernel
theorem dX8_noProp_13 : decode cX8_noProp 13 = .ok (.ifCond .ne 7, 3) := by decide +kernel
theorem dX8_noProp_16 : decode cX8_noProp 16 = .ok (.iconst 1, 1) := by decide +kernel
theorem dX8_noProp_17 : decode cX8_noProp 17 = .ok (.goto 4, 3) := by decide +kernel
theorem dX8_noProp_20 : decode cX8_noProp 20 = .ok (.iconst 0, 1) := by decide +kernel
theorem dX8_noProp_21 : decode cX8_noProp 21 = .ok (.ireturn, 1) := by decide +kernel
theorem dX8_noClue_0 : decode cX8_noClue 0 = .ok (.iload_n 1, 1) := by decide +kernel
theorem dX8_noClue_1 : decode cX8_noClue 1 = .ok (.iconst 0, 1) := by decide +kernel
theorem dX8_noClue_2 : decode cX8_noClue 2 = .ok (.aload_n 0, 1) := by decide +kernel
theorem dX8_noClue_3 : decode cX8_noClue 3 = .ok (.getfield 7, 3) := by decide +kernel
theorem dX8_noClue_6 : decode cX8_noClue 6 = .ok (.iconst 2, 1) := by decide +kernel
theorem dX8_noClue_7 : decode cX8_noClue 7 = .ok (.iaload, 1) := by decide +kernel
theorem dX8_noClue_8 : decode cX8_noClue 8 = .ok (.iconst 1, 1) := by decide +kernel
theorem dX8_noClue_9 : decode cX8_noClue 9 = .ok (.isub, 1) := by decide +kernel
theorem dX8_noClue_10 : decode cX8_noClue 10 = .ok (.invokestatic 30, 3) := by decide +kernel
theorem dX8_noClue_13 : decode cX8_noClue 13 = .ok (.ifCond .ne 7, 3) := by decide +kernel
theorem dX8_noClue_16 : decode cX8_noClue 16 = .ok (.iconst 1, 1) := by decide +kernel
theorem dX8_noClue_17 : decode cX8_noClue 17 = .ok (.goto 4, 3) := by decide +kernel
theorem dX8_noClue_20 : decode cX8_noClue 20 = .ok (.iconst 0, 1) := by decide +kernel
theorem dX8_noClue_21 : decode cX8_noClue 21 = .ok (.ireturn, 1) := by decide +kernel
theorem dX8_isOpen_0 : decode cX8_isOpen 0 = .ok (.aload_n 0, 1) := by decide +kernel
theorem dX8_isOpen_1 : decode cX8_isOpen 1 = .ok (.getfield 7, 3) := by decide +kernel
theorem dX8_isOpen_4 : decode cX8_isOpen 4 = .ok (.bipush 56, 2) := by decide +kernel
theorem dX8_isOpen_6 : decode cX8_isOpen 6 = .ok (.iload_n 1, 1) := by decide +kernel
theorem dX8_isOpen_7 : decode cX8_isOpen 7 = .ok (.iadd, 1) := by decide +kernel
theorem dX8_isOpen_8 : decode cX8_isOpen 8 = .ok (.iaload, 1) := by decide +kernel
theorem dX8_isOpen_9 : decode cX8_isOpen 9 = .ok (.iconst 1, 1) := by decide +kernel
theorem dX8_isOpen_10 : decode cX8_isOpen 10 = .ok (.if_icmp .ne 7, 3) := by decide +kernel
theorem dX8_isOpen_13 : decode cX8_isOpen 13 = .ok (.iconst 1, 1) := by decide +kernel
theorem dX8_isOpen_14 : decode cX8_isOpen 14 = .ok (.goto 4, 3) := by decide +kernel
theorem dX8_isOpen_17 : decode cX8_isOpen 17 = .ok (.iconst 0, 1) := by decide +kernel
theorem dX8_isOpen_18 : decode cX8_isOpen 18 = .ok (.ireturn, 1) := by decide +kernel
theorem dX8_closedFrom_0 : decode cX8_closedFrom 0 = .ok (.bipush (-5), 2) := by decide +kernel
theorem dX8_closedFrom_2 : decode cX8_closedFrom 2 = .ok (.istore_n 2, 1) := by decide +kernel
theorem dX8_closedFrom_3 : decode cX8_closedFrom 3 = .ok (.iload_n 1, 1) := by decide +kernel
theorem dX8_closedFrom_4 : decode cX8_closedFrom 4 = .ok (.istore_n 3, 1) := by decide +kernel
theorem dX8_closedFrom_5 : decode cX8_closedFrom 5 = .ok (.iload_n 3, 1) := by decide +kernel
theorem dX8_closedFrom_6 : decode cX8_closedFrom 6 = .ok (.ifCond .le 30, 3) := by decide +kernel
theorem dX8_closedFrom_9 : decode cX8_closedFrom 9 = .ok (.aload_n 0, 1) := by decide +kernel
theorem dX8_closedFrom_10 : decode cX8_closedFrom 10 = .ok (.iload_n 3, 1) := by decide +kernel
theorem dX8_closedFrom_11 : decode cX8_closedFrom 11 = .ok (.invokevirtual 34, 3) := by decide +kernel
theorem dX8_closedFrom_14 : decode cX8_closedFrom 14 = .ok (.ifCond .eq 7, 3) := by decide +kernel
theorem dX8_closedFrom_17 : decode cX8_closedFrom 17 = .ok (.iload_n 2, 1) := by decide +kernel
theorem dX8_closedFrom_18 : decode cX8_closedFrom 18 = .ok (.goto 4, 3) := by decide +kernel
theorem dX8_closedFrom_21 : decode cX8_closedFrom 21 = .ok (.iload_n 3, 1) := by decide +kernel
theorem dX8_closedFrom_22 : decode cX8_closedFrom 22 = .ok (.istore_n 2, 1) := by decide +kernel
theorem dX8_closedFrom_23 : decode cX8_closedFrom 23 = .ok (.aload_n 0, 1) := by decide +kernel
theorem dX8_closedFrom_24 : decode cX8_closedFrom 24 = .ok (.getfield 7, 3) := by decide +kernel
theorem dX8_closedFrom_27 : decode cX8_closedFrom 27 = .ok (.bipush 20, 2) := by decide +kernel
theorem dX8_closedFrom_29 : decode cX8_closedFrom 29 = .ok (.iload_n 3, 1) := by decide +kernel
theorem dX8_closedFrom_30 : decode cX8_closedFrom 30 = .ok (.iadd, 1) := by decide +kernel
theorem dX8_closedFrom_31 : decode cX8_closedFrom 31 = .ok (.iaload, 1) := by decide +kernel
theorem dX8_closedFrom_32 : decode cX8_closedFrom 32 = .ok (.istore_n 3, 1) := by decide +kernel
theorem dX8_closedFrom_33 : decode cX8_closedFrom 33 = .ok (.goto (-28), 3) := by decide +kernel
theorem dX8_closedFrom_36 : decode cX8_closedFrom 36 = .ok (.iload_n 2, 1) := by decide +kernel
theorem dX8_closedFrom_37 : decode cX8_closedFrom 37 = .ok (.ireturn, 1) := by decide +kernel
theorem dX8_closedAround_0 : decode cX8_closedAround 0 = .ok (.iload_n 1, 1) := by decide +kernel
theorem dX8_closedAround_1 : decode cX8_closedAround 1 = .ok (.ifCond .ne 8, 3) := by decide +kernel
theorem dX8_closedAround_4 : decode cX8_closedAround 4 = .ok (.bipush (-5), 2) := by decide +kernel
theorem dX8_closedAround_6 : decode cX8_closedAround 6 = .ok (.goto 16, 3) := by decide +kernel
theorem dX8_closedAround_9 : decode cX8_closedAround 9 = .ok (.aload_n 0, 1) := by decide +kernel
theorem dX8_closedAround_10 : decode cX8_closedAround 10 = .ok (.aload_n 0, 1) := by decide +kernel
theorem dX8_closedAround_11 : decode cX8_closedAround 11 = .ok (.getfield 7, 3) := by decide +kernel
theorem dX8_closedAround_14 : decode cX8_closedAround 14 = .ok (.bipush 20, 2) := by decide +kernel
theorem dX8_closedAround_16 : decode cX8_closedAround 16 = .ok (.iload_n 1, 1) := by decide +kernel
theorem dX8_closedAround_17 : decode cX8_closedAround 17 = .ok (.iadd, 1) := by decide +kernel
theorem dX8_closedAround_18 : decode cX8_closedAround 18 = .ok (.iaload, 1) := by decide +kernel
theorem dX8_closedAround_19 : decode cX8_closedAround 19 = .ok (.invokevirtual 38, 3) := by decide +kernel
theorem dX8_closedAround_22 : decode cX8_closedAround 22 = .ok (.ireturn, 1) := by decide +kernel
theorem dX8_boxAtHand_0 : decode cX8_boxAtHand 0 = .ok (.aload_n 0, 1) := by decide +kernel
theorem dX8_boxAtHand_1 : decode cX8_boxAtHand 1 = .ok (.iload_n 1, 1) := by decide +kernel
theorem dX8_boxAtHand_2 : decode cX8_boxAtHand 2 = .ok (.invokevirtual 42, 3) := by decide +kernel
theorem dX8_boxAtHand_5 : decode cX8_boxAtHand 5 = .ok (.ifCond .ge 7, 3) := by decide +kernel
theorem dX8_boxAtHand_8 : decode cX8_boxAtHand 8 = .ok (.iconst 1, 1) := by decide +kernel
theorem dX8_boxAtHand_9 : decode cX8_boxAtHand 9 = .ok (.goto 4, 3) := by decide +kernel
theorem dX8_boxAtHand_12 : decode cX8_boxAtHand 12 = .ok (.iconst 0, 1) := by decide +kernel
theorem dX8_boxAtHand_13 : decode cX8_boxAtHand 13 = .ok (.ireturn, 1) := by decide +kernel
theorem dX8_isHeld_0 : decode cX8_isHeld 0 = .ok (.aload_n 0, 1) := by decide +kernel
theorem dX8_isHeld_1 : decode cX8_isHeld 1 = .ok (.getfield 7, 3) := by decide +kernel
theorem dX8_isHeld_4 : decode cX8_isHeld 4 = .ok (.bipush 104, 2) := by decide +kernel
theorem dX8_isHeld_6 : decode cX8_isHeld 6 = .ok (.iload_n 1, 1) := by decide +kernel
theorem dX8_isHeld_7 : decode cX8_isHeld 7 = .ok (.iadd, 1) := by decide +kernel
theorem dX8_isHeld_8 : decode cX8_isHeld 8 = .ok (.iaload, 1) := by decide +kernel
theorem dX8_isHeld_9 : decode cX8_isHeld 9 = .ok (.iconst (-1), 1) := by decide +kernel
theorem dX8_isHeld_10 : decode cX8_isHeld 10 = .ok (.if_icmp .ne 7, 3) := by decide +kernel
theorem dX8_isHeld_13 : decode cX8_isHeld 13 = .ok (.iconst 1, 1) := by decide +kernel
theorem dX8_isHeld_14 : decode cX8_isHeld 14 = .ok (.goto 4, 3) := by decide +kernel
theorem dX8_isHeld_17 : decode cX8_isHeld 17 = .ok (.iconst 0, 1) := by decide +kernel
theorem dX8_isHeld_18 : decode cX8_isHeld 18 = .ok (.ireturn, 1) := by decide +kernel
theorem dX8_propAtHand_0 : decode cX8_propAtHand 0 = .ok (.aload_n 0, 1) := by decide +kernel
theorem dX8_propAtHand_1 : decode cX8_propAtHand 1 = .ok (.iload_n 1, 1) := by decide +kernel
theorem dX8_propAtHand_2 : decode cX8_propAtHand 2 = .ok (.invokevirtual 45, 3) := by decide +kernel
theorem dX8_propAtHand_5 : decode cX8_propAtHand 5 = .ok (.ifCond .ne 19, 3) := by decide +kernel
theorem dX8_propAtHand_8 : decode cX8_propAtHand 8 = .ok (.aload_n 0, 1) := by decide +kernel
theorem dX8_propAtHand_9 : decode cX8_propAtHand 9 = .ok (.aload_n 0, 1) := by decide +kernel
theorem dX8_propAtHand_10 : decode cX8_propAtHand 10 = .ok (.getfield 7, 3) := by decide +kernel
theorem dX8_propAtHand_13 : decode cX8_propAtHand 13 = .ok (.bipush 104, 2) := by decide +kernel
theorem dX8_propAtHand_15 : decode cX8_propAtHand 15 = .ok (.iload_n 1, 1) := by decide +kernel
theorem dX8_propAtHand_16 : decode cX8_propAtHand 16 = .ok (.iadd, 1) := by decide +kernel
theorem dX8_propAtHand_17 : decode cX8_propAtHand 17 = .ok (.iaload, 1) := by decide +kernel
theorem dX8_propAtHand_18 : decode cX8_propAtHand 18 = .ok (.invokevirtual 38, 3) := by decide +kernel
theorem dX8_propAtHand_21 : decode cX8_propAtHand 21 = .ok (.ifCond .ge 7, 3) := by decide +kernel
theorem dX8_propAtHand_24 : decode cX8_propAtHand 24 = .ok (.iconst 1, 1) := by decide +kernel
theorem dX8_propAtHand_25 : decode cX8_propAtHand 25 = .ok (.goto 4, 3) := by decide +kernel
theorem dX8_propAtHand_28 : decode cX8_propAtHand 28 = .ok (.iconst 0, 1) := by decide +kernel
theorem dX8_propAtHand_29 : decode cX8_propAtHand 29 = .ok (.ireturn, 1) := by decide +kernel
theorem dX8_clueAtHand_0 : decode cX8_clueAtHand 0 = .ok (.aload_n 0, 1) := by decide +kernel
theorem dX8_clueAtHand_1 : decode cX8_clueAtHand 1 = .ok (.aload_n 0, 1) := by decide +kernel
theorem dX8_clueAtHand_2 : decode cX8_clueAtHand 2 = .ok (.getfield 7, 3) := by decide +kernel
theorem dX8_clueAtHand_5 : decode cX8_clueAtHand 5 = .ok (.sipush 128, 3) := by decide +kernel
theorem dX8_clueAtHand_8 : decode cX8_clueAtHand 8 = .ok (.iload_n 1, 1) := by decide +kernel
theorem dX8_clueAtHand_9 : decode cX8_clueAtHand 9 = .ok (.iadd, 1) := by decide +kernel
theorem dX8_clueAtHand_10 : decode cX8_clueAtHand 10 = .ok (.iaload, 1) := by decide +kernel
theorem dX8_clueAtHand_11 : decode cX8_clueAtHand 11 = .ok (.invokevirtual 48, 3) := by decide +kernel
theorem dX8_clueAtHand_14 : decode cX8_clueAtHand 14 = .ok (.ireturn, 1) := by decide +kernel
theorem dX8_held_0 : decode cX8_held 0 = .ok (.iconst 0, 1) := by decide +kernel
theorem dX8_held_1 : decode cX8_held 1 = .ok (.istore_n 1, 1) := by decide +kernel
theorem dX8_held_2 : decode cX8_held 2 = .ok (.iconst 0, 1) := by decide +kernel
theorem dX8_held_3 : decode cX8_held 3 = .ok (.istore_n 2, 1) := by decide +kernel
theorem dX8_held_4 : decode cX8_held 4 = .ok (.iload_n 2, 1) := by decide +kernel
theorem dX8_held_5 : decode cX8_held 5 = .ok (.aload_n 0, 1) := by decide +kernel
theorem dX8_held_6 : decode cX8_held 6 = .ok (.getfield 7, 3) := by decide +kernel
theorem dX8_held_9 : decode cX8_held 9 = .ok (.iconst 1, 1) := by decide +kernel
theorem dX8_held_10 : decode cX8_held 10 = .ok (.iaload, 1) := by decide +kernel
theorem dX8_held_11 : decode cX8_held 11 = .ok (.if_icmp .ge 25, 3) := by decide +kernel
theorem dX8_held_14 : decode cX8_held 14 = .ok (.iload_n 1, 1) := by decide +kernel
theorem dX8_held_15 : decode cX8_held 15 = .ok (.aload_n 0, 1) := by decide +kernel
theorem dX8_held_16 : decode cX8_held 16 = .ok (.iload_n 2, 1) := by decide +kernel
theorem dX8_held_17 : decode cX8_held 17 = .ok (.invokevirtual 45, 3) := by decide +kernel
theorem dX8_held_20 : decode cX8_held 20 = .ok (.ifCond .eq 7, 3) := by decide +kernel
theorem dX8_held_23 : decode cX8_held 23 = .ok (.iconst 1, 1) := by decide +kernel
theorem dX8_held_24 : decode cX8_held 24 = .ok (.goto 4, 3) := by decide +kernel
theorem dX8_held_27 : decode cX8_held 27 = .ok (.iconst 0, 1) := by decide +kernel
theorem dX8_held_28 : decode cX8_held 28 = .ok (.iadd, 1) := by decide +kernel
theorem dX8_held_29 : decode cX8_held 29 = .ok (.istore_n 1, 1) := by decide +kernel
theorem dX8_held_30 : decode cX8_held 30 = .ok (.iinc 2 1, 3) := by decide +kernel
theorem dX8_held_33 : decode cX8_held 33 = .ok (.goto (-29), 3) := by decide +kernel
theorem dX8_held_36 : decode cX8_held 36 = .ok (.iload_n 1, 1) := by decide +kernel
theorem dX8_held_37 : decode cX8_held 37 = .ok (.ireturn, 1) := by decide +kernel
theorem dX8_digitOf_0 : decode cX8_digitOf 0 = .ok (.aload_n 0, 1) := by decide +kernel
theorem dX8_digitOf_1 : decode cX8_digitOf 1 = .ok (.getfield 7, 3) := by decide +kernel
theorem dX8_digitOf_4 : decode cX8_digitOf 4 = .ok (.bipush 44, 2) := by decide +kernel
theorem dX8_digitOf_6 : decode cX8_digitOf 6 = .ok (.aload_n 0, 1) := by decide +kernel
theorem dX8_digitOf_7 : decode cX8_digitOf 7 = .ok (.getfield 7, 3) := by decide +kernel
theorem dX8_digitOf_10 : decode cX8_digitOf 10 = .ok (.sipush 140, 3) := by decide +kernel
theorem dX8_digitOf_13 : decode cX8_digitOf 13 = .ok (.iload_n 1, 1) := by decide +kernel
theorem dX8_digitOf_14 : decode cX8_digitOf 14 = .ok (.iadd, 1) := by decide +kernel
theorem dX8_digitOf_15 : decode cX8_digitOf 15 = .ok (.iaload, 1) := by decide +kernel
theorem dX8_digitOf_16 : decode cX8_digitOf 16 = .ok (.iadd, 1) := by decide +kernel
theorem dX8_digitOf_17 : decode cX8_digitOf 17 = .ok (.iaload, 1) := by decide +kernel
theorem dX8_digitOf_18 : decode cX8_digitOf 18 = .ok (.istore_n 2, 1) := by decide +kernel
theorem dX8_digitOf_19 : decode cX8_digitOf 19 = .ok (.aload_n 0, 1) := by decide +kernel
theorem dX8_digitOf_20 : decode cX8_digitOf 20 = .ok (.getfield 7, 3) := by decide +kernel
theorem dX8_digitOf_23 : decode cX8_digitOf 23 = .ok (.sipush 152, 3) := by decide +kernel
theorem dX8_digitOf_26 : decode cX8_digitOf 26 = .ok (.iload_n 1, 1) := by decide +kernel
theorem dX8_digitOf_27 : decode cX8_digitOf 27 = .ok (.iadd, 1) := by decide +kernel
theorem dX8_digitOf_28 : decode cX8_digitOf 28 = .ok (.iaload, 1) := by decide +kernel
theorem dX8_digitOf_29 : decode cX8_digitOf 29 = .ok (.istore_n 3, 1) := by decide +kernel
theorem dX8_digitOf_30 : decode cX8_digitOf 30 = .ok (.iload_n 3, 1) := by decide +kernel
theorem dX8_digitOf_31 : decode cX8_digitOf 31 = .ok (.iconst 3, 1) := by decide +kernel
theorem dX8_digitOf_32 : decode cX8_digitOf 32 = .ok (.if_icmp .ge 14, 3) := by decide +kernel
theorem dX8_digitOf_35 : decode cX8_digitOf 35 = .ok (.iload_n 2, 1) := by decide +kernel
theorem dX8_digitOf_36 : decode cX8_digitOf 36 = .ok (.bipush 10, 2) := by decide +kernel
theorem dX8_digitOf_38 : decode cX8_digitOf 38 = .ok (.idiv, 1) := by decide +kernel
theorem dX8_digitOf_39 : decode cX8_digitOf 39 = .ok (.istore_n 2, 1) := by decide +kernel
theorem dX8_digitOf_40 : decode cX8_digitOf 40 = .ok (.iinc 3 1, 3) := by decide +kernel
theorem dX8_digitOf_43 : decode cX8_digitOf 43 = .ok (.goto (-13), 3) := by decide +kernel
theorem dX8_digitOf_46 : decode cX8_digitOf 46 = .ok (.iload_n 2, 1) := by decide +kernel
theorem dX8_digitOf_47 : decode cX8_digitOf 47 = .ok (.bipush 10, 2) := by decide +kernel
theorem dX8_digitOf_49 : decode cX8_digitOf 49 = .ok (.irem, 1) := by decide +kernel
theorem dX8_digitOf_50 : decode cX8_digitOf 50 = .ok (.ireturn, 1) := by decide +kernel
theorem dX8_pass_0 : decode cX8_pass 0 = .ok (.aload_n 0, 1) := by decide +kernel
theorem dX8_pass_1 : decode cX8_pass 1 = .ok (.getfield 7, 3) := by decide +kernel
theorem dX8_pass_4 : decode cX8_pass 4 = .ok (.bipush 9, 2) := by decide +kernel
theorem dX8_pass_6 : decode cX8_pass 6 = .ok (.iaload, 1) := by decide +kernel
theorem dX8_pass_7 : decode cX8_pass 7 = .ok (.iload_n 1, 1) := by decide +kernel
theorem dX8_pass_8 : decode cX8_pass 8 = .ok (.iadd, 1) := by decide +kernel
theorem dX8_pass_9 : decode cX8_pass 9 = .ok (.bipush 60, 2) := by decide +kernel
theorem dX8_pass_11 : decode cX8_pass 11 = .ok (.idiv, 1) := by decide +kernel
theorem dX8_pass_12 : decode cX8_pass 12 = .ok (.aload_n 0, 1) := by decide +kernel
theorem dX8_pass_13 : decode cX8_pass 13 = .ok (.getfield 7, 3) := by decide +kernel
theorem dX8_pass_16 : decode cX8_pass 16 = .ok (.bipush 9, 2) := by decide +kernel
theorem dX8_pass_18 : decode cX8_pass 18 = .ok (.iaload, 1) := by decide +kernel
theorem dX8_pass_19 : decode cX8_pass 19 = .ok (.bipush 60, 2) := by decide +kernel
theorem dX8_pass_21 : decode cX8_pass 21 = .ok (.idiv, 1) := by decide +kernel
theorem dX8_pass_22 : decode cX8_pass 22 = .ok (.isub, 1) := by decide +kernel
theorem dX8_pass_23 : decode cX8_pass 23 = .ok (.istore_n 2, 1) := by decide +kernel
theorem dX8_pass_24 : decode cX8_pass 24 = .ok (.iconst 0, 1) := by decide +kernel
theorem dX8_pass_25 : decode cX8_pass 25 = .ok (.istore_n 3, 1) := by decide +kernel
theorem dX8_pass_26 : decode cX8_pass 26 = .ok (.iload_n 3, 1) := by decide +kernel
theorem dX8_pass_27 : decode cX8_pass 27 = .ok (.aload_n 0, 1) := by decide +kernel
theorem dX8_pass_28 : decode cX8_pass 28 = .ok (.getfield 7, 3) := by decide +kernel
theorem dX8_pass_31 : decode cX8_pass 31 = .ok (.iconst 2, 1) := by decide +kernel
theorem dX8_pass_32 : decode cX8_pass 32 = .ok (.iaload, 1) := by decide +kernel
theorem dX8_pass_33 : decode cX8_pass 33 = .ok (.if_icmp .ge 69, 3) := by decide +kernel
theorem dX8_pass_36 : decode cX8_pass 36 = .ok (.iload_n 2, 1) := by decide +kernel
theorem dX8_pass_37 : decode cX8_pass 37 = .ok (.ifCond .le 65, 3) := by decide +kernel
theorem dX8_pass_40 : decode cX8_pass 40 = .ok (.aload_n 0, 1) := by decide +kernel
theorem dX8_pass_41 : decode cX8_pass 41 = .ok (.getfield 7, 3) := by decide +kernel
theorem dX8_pass_44 : decode cX8_pass 44 = .ok (.sipush 164, 3) := by decide +kernel
theorem dX8_pass_47 : decode cX8_pass 47 = .ok (.iload_n 3, 1) := by decide +kernel
theorem dX8_pass_48 : decode cX8_pass 48 = .ok (.iadd, 1) := by decide +kernel
theorem dX8_pass_49 : decode cX8_pass 49 = .ok (.iaload, 1) := by decide +kernel
theorem dX8_pass_50 : decode cX8_pass 50 = .ok (.iload_n 2, 1) := by decide +kernel
theorem dX8_pass_51 : decode cX8_pass 51 = .ok (.isub, 1) := by decide +kernel
theorem dX8_pass_52 : decode cX8_pass 52 = .ok (.istore 4, 2) := by decide +kernel
theorem dX8_pass_54 : decode cX8_pass 54 = .ok (.aload_n 0, 1) := by decide +kernel
theorem dX8_pass_55 : decode cX8_pass 55 = .ok (.getfield 7, 3) := by decide +kernel
theorem dX8_pass_58 : decode cX8_pass 58 = .ok (.sipush 164, 3) := by decide +kernel
theorem dX8_pass_61 : decode cX8_pass 61 = .ok (.iload_n 3, 1) := by decide +kernel
theorem dX8_pass_62 : decode cX8_pass 62 = .ok (.iadd, 1) := by decide +kernel
theorem dX8_pass_63 : decode cX8_pass 63 = .ok (.aload_n 0, 1) := by decide +kernel
theorem dX8_pass_64 : decode cX8_pass 64 = .ok (.iload_n 3, 1) := by decide +kernel
theorem dX8_pass_65 : decode cX8_pass 65 = .ok (.invokevirtual 51, 3) := by decide +kernel
theorem dX8_pass_68 : decode cX8_pass 68 = .ok (.ifCond .ne 16, 3) := by decide +kernel
theorem dX8_pass_71 : decode cX8_pass 71 = .ok (.aload_n 0, 1) := by decide +kernel
theorem dX8_pass_72 : decode cX8_pass 72 = .ok (.getfield 7, 3) := by decide +kernel
theorem dX8_pass_75 : decode cX8_pass 75 = .ok (.sipush 164, 3) := by decide +kernel
theorem dX8_pass_78 : decode cX8_pass 78 = .ok (.iload_n 3, 1) := by decide +kernel
theorem dX8_pass_79 : decode cX8_pass 79 = .ok (.iadd, 1) := by decide +kernel
theorem dX8_pass_80 : decode cX8_pass 80 = .ok (.iaload, 1) := by decide +kernel
theorem dX8_pass_81 : decode cX8_pass 81 = .ok (.goto 14, 3) := by decide +kernel
theorem dX8_pass_84 : decode cX8_pass 84 = .ok (.iload 4, 2) := by decide +kernel
theorem dX8_pass_86 : decode cX8_pass 86 = .ok (.ifCond .le 8, 3) := by decide +kernel
theorem dX8_pass_89 : decode cX8_pass 89 = .ok (.iload 4, 2) := by decide +kernel
theorem dX8_pass_91 : decode cX8_pass 91 = .ok (.goto 4, 3) := by decide +kernel
theorem dX8_pass_94 : decode cX8_pass 94 = .ok (.iconst 0, 1) := by decide +kernel
theorem dX8_pass_95 : decode cX8_pass 95 = .ok (.iastore, 1) := by decide +kernel
theorem dX8_pass_96 : decode cX8_pass 96 = .ok (.iinc 3 1, 3) := by decide +kernel
theorem dX8_pass_99 : decode cX8_pass 99 = .ok (.goto (-73), 3) := by decide +kernel
theorem dX8_pass_102 : decode cX8_pass 102 = .ok (.aload_n 0, 1) := by decide +kernel
theorem dX8_pass_103 : decode cX8_pass 103 = .ok (.getfield 7, 3) := by decide +kernel
theorem dX8_pass_106 : decode cX8_pass 106 = .ok (.bipush 9, 2) := by decide +kernel
theorem dX8_pass_108 : decode cX8_pass 108 = .ok (.dup2, 1) := by decide +kernel
theorem dX8_pass_109 : decode cX8_pass 109 = .ok (.iaload, 1) := by decide +kernel
theorem dX8_pass_110 : decode cX8_pass 110 = .ok (.iload_n 1, 1) := by decide +kernel
theorem dX8_pass_111 : decode cX8_pass 111 = .ok (.iadd, 1) := by decide +kernel
theorem dX8_pass_112 : decode cX8_pass 112 = .ok (.iastore, 1) := by decide +kernel
theorem dX8_pass_113 : decode cX8_pass 113 = .ok (.return_, 1) := by decide +kernel
theorem dX8_type_0 : decode cX8_type 0 = .ok (.aload_n 0, 1) := by decide +kernel
theorem dX8_type_1 : decode cX8_type 1 = .ok (.getfield 54, 3) := by decide +kernel
theorem dX8_type_4 : decode cX8_type 4 = .ok (.bipush 20, 2) := by decide +kernel
theorem dX8_type_6 : decode cX8_type 6 = .ok (.if_icmp .ne 6, 3) := by decide +kernel
theorem dX8_type_9 : decode cX8_type 9 = .ok (.bipush (-3), 2) := by decide +kernel
theorem dX8_type_11 : decode cX8_type 11 = .ok (.ireturn, 1) := by decide +kernel
theorem dX8_type_12 : decode cX8_type 12 = .ok (.aload_n 0, 1) := by decide +kernel
theorem dX8_type_13 : decode cX8_type 13 = .ok (.getfield 23, 3) := by decide +kernel
theorem dX8_type_16 : decode cX8_type 16 = .ok (.aload_n 0, 1) := by decide +kernel
theorem dX8_type_17 : decode cX8_type 17 = .ok (.getfield 54, 3) := by decide +kernel
theorem dX8_type_20 : decode cX8_type 20 = .ok (.iload_n 1, 1) := by decide +kernel
theorem dX8_type_21 : decode cX8_type 21 = .ok (.castore, 1) := by decide +kernel
theorem dX8_type_22 : decode cX8_type 22 = .ok (.aload_n 0, 1) := by decide +kernel
theorem dX8_type_23 : decode cX8_type 23 = .ok (.dup, 1) := by decide +kernel
theorem dX8_type_24 : decode cX8_type 24 = .ok (.getfield 54, 3) := by decide +kernel
theorem dX8_type_27 : decode cX8_type 27 = .ok (.iconst 1, 1) := by decide +kernel
theorem dX8_type_28 : decode cX8_type 28 = .ok (.iadd, 1) := by decide +kernel
theorem dX8_type_29 : decode cX8_type 29 = .ok (.putfield 54, 3) := by decide +kernel
theorem dX8_type_32 : decode cX8_type 32 = .ok (.aload_n 0, 1) := by decide +kernel
theorem dX8_type_33 : decode cX8_type 33 = .ok (.getfield 54, 3) := by decide +kernel
theorem dX8_type_36 : decode cX8_type 36 = .ok (.ireturn, 1) := by decide +kernel
theorem dX8_clearText_0 : decode cX8_clearText 0 = .ok (.aload_n 0, 1) := by decide +kernel
theorem dX8_clearText_1 : decode cX8_clearText 1 = .ok (.getfield 54, 3) := by decide +kernel
theorem dX8_clearText_4 : decode cX8_clearText 4 = .ok (.istore_n 1, 1) := by decide +kernel
theorem dX8_clearText_5 : decode cX8_clearText 5 = .ok (.aload_n 0, 1) := by decide +kernel
theorem dX8_clearText_6 : decode cX8_clearText 6 = .ok (.iconst 0, 1) := by decide +kernel
theorem dX8_clearText_7 : decode cX8_clearText 7 = .ok (.putfield 54, 3) := by decide +kernel
theorem dX8_clearText_10 : decode cX8_clearText 10 = .ok (.iload_n 1, 1) := by decide +kernel
theorem dX8_clearText_11 : decode cX8_clearText 11 = .ok (.ireturn, 1) := by decide +kernel
theorem dX8_lockLetter_0 : decode cX8_lockLetter 0 = .ok (.iload_n 0, 1) := by decide +kernel
theorem dX8_lockLetter_1 : decode cX8_lockLetter 1 = .ok (.tableswitch 150 0 2 #[27, 78, 109], 27) := by decide +kernel
theorem dX8_lockLetter_28 : decode cX8_lockLetter 28 = .ok (.iload_n 1, 1) := by decide +kernel
theorem dX8_lockLetter_29 : decode cX8_lockLetter 29 = .ok (.ifCond .ne 8, 3) := by decide +kernel
theorem dX8_lockLetter_32 : decode cX8_lockLetter 32 = .ok (.bipush 108, 2) := by decide +kernel
theorem dX8_lockLetter_34 : decode cX8_lockLetter 34 = .ok (.goto 44, 3) := by decide +kernel
theorem dX8_lockLetter_37 : decode cX8_lockLetter 37 = .ok (.iload_n 1, 1) := by decide +kernel
theorem dX8_lockLetter_38 : decode cX8_lockLetter 38 = .ok (.iconst 1, 1) := by decide +kernel
theorem dX8_lockLetter_39 : decode cX8_lockLetter 39 = .ok (.if_icmp .ne 8, 3) := by decide +kernel
theorem dX8_lockLetter_42 : decode cX8_lockLetter 42 = .ok (.bipush 97, 2) := by decide +kernel
theorem dX8_lockLetter_44 : decode cX8_lockLetter 44 = .ok (.goto 34, 3) := by decide +kernel
theorem dX8_lockLetter_47 : decode cX8_lockLetter 47 = .ok (.iload_n 1, 1) := by decide +kernel
theorem dX8_lockLetter_48 : decode cX8_lockLetter 48 = .ok (.iconst 2, 1) := by decide +kernel
theorem dX8_lockLetter_49 : decode cX8_lockLetter 49 = .ok (.if_icmp .ne 8, 3) := by decide +kernel
theorem dX8_lockLetter_52 : decode cX8_lockLetter 52 = .ok (.bipush 116, 2) := by decide +kernel
theorem dX8_lockLetter_54 : decode cX8_lockLetter 54 = .ok (.goto 24, 3) := by decide +kernel
theorem dX8_lockLetter_57 : decode cX8_lockLetter 57 = .ok (.iload_n 1, 1) := by decide +kernel
theorem dX8_lockLetter_58 : decode cX8_lockLetter 58 = .ok (.iconst 3, 1) := by decide +kernel
theorem dX8_lockLetter_59 : decode cX8_lockLetter 59 = .ok (.if_icmp .ne 8, 3) := by decide +kernel
theorem dX8_lockLetter_62 : decode cX8_lockLetter 62 = .ok (.bipush 99, 2) := by decide +kernel
theorem dX8_lockLetter_64 : decode cX8_lockLetter 64 = .ok (.goto 14, 3) := by decide +kernel
theorem dX8_lockLetter_67 : decode cX8_lockLetter 67 = .ok (.iload_n 1, 1) := by decide +kernel
theorem dX8_lockLetter_68 : decode cX8_lockLetter 68 = .ok (.iconst 4, 1) := by decide +kernel
theorem dX8_lockLetter_69 : decode cX8_lockLetter 69 = .ok (.if_icmp .ne 8, 3) := by decide +kernel
theorem dX8_lockLetter_72 : decode cX8_lockLetter 72 = .ok (.bipush 104, 2) := by decide +kernel
theorem dX8_lockLetter_74 : decode cX8_lockLetter 74 = .ok (.goto 4, 3) := by decide +kernel
theorem dX8_lockLetter_77 : decode cX8_lockLetter 77 = .ok (.iconst 0, 1) := by decide +kernel
theorem dX8_lockLetter_78 : decode cX8_lockLetter 78 = .ok (.ireturn, 1) := by decide +kernel
theorem dX8_lockLetter_79 : decode cX8_lockLetter 79 = .ok (.iload_n 1, 1) := by decide +kernel
theorem dX8_lockLetter_80 : decode cX8_lockLetter 80 = .ok (.ifCond .ne 8, 3) := by decide +kernel
theorem dX8_lockLetter_83 : decode cX8_lockLetter 83 = .ok (.bipush 107, 2) := by decide +kernel
theorem dX8_lockLetter_85 : decode cX8_lockLetter 85 = .ok (.goto 24, 3) := by decide +kernel
theorem dX8_lockLetter_88 : decode cX8_lockLetter 88 = .ok (.iload_n 1, 1) := by decide +kernel
theorem dX8_lockLetter_89 : decode cX8_lockLetter 89 = .ok (.iconst 1, 1) := by decide +kernel
theorem dX8_lockLetter_90 : decode cX8_lockLetter 90 = .ok (.if_icmp .ne 8, 3) := by decide +kernel
theorem dX8_lockLetter_93 : decode cX8_lockLetter 93 = .ok (.bipush 101, 2) := by decide +kernel
theorem dX8_lockLetter_95 : decode cX8_lockLetter 95 = .ok (.goto 14, 3) := by decide +kernel
theorem dX8_lockLetter_98 : decode cX8_lockLetter 98 = .ok (.iload_n 1, 1) := by decide +kernel
theorem dX8_lockLetter_99 : decode cX8_lockLetter 99 = .ok (.iconst 2, 1) := by decide +kernel
theorem dX8_lockLetter_100 : decode cX8_lockLetter 100 = .ok (.if_icmp .ne 8, 3) := by decide +kernel
theorem dX8_lockLetter_103 : decode cX8_lockLetter 103 = .ok (.bipush 121, 2) := by decide +kernel
theorem dX8_lockLetter_105 : decode cX8_lockLetter 105 = .ok (.goto 4, 3) := by decide +kernel
theorem dX8_lockLetter_108 : decode cX8_lockLetter 108 = .ok (.iconst 0, 1) := by decide +kernel
theorem dX8_lockLetter_109 : decode cX8_lockLetter 109 = .ok (.ireturn, 1) := by decide +kernel
theorem dX8_lockLetter_110 : decode cX8_lockLetter 110 = .ok (.iload_n 1, 1) := by decide +kernel
theorem dX8_lockLetter_111 : decode cX8_lockLetter 111 = .ok (.ifCond .ne 8, 3) := by decide +kernel
theorem dX8_lockLetter_114 : decode cX8_lockLetter 114 = .ok (.bipush 99, 2) := by decide +kernel
theorem dX8_lockLetter_116 : decode cX8_lockLetter 116 = .ok (.goto 34, 3) := by decide +kernel
theorem dX8_lockLetter_119 : decode cX8_lockLetter 119 = .ok (.iload_n 1, 1) := by decide +kernel
theorem dX8_lockLetter_120 : decode cX8_lockLetter 120 = .ok (.iconst 1, 1) := by decide +kernel
theorem dX8_lockLetter_121 : decode cX8_lockLetter 121 = .ok (.if_icmp .ne 8, 3) := by decide +kernel
theorem dX8_lockLetter_124 : decode cX8_lockLetter 124 = .ok (.bipush 111, 2) := by decide +kernel
theorem dX8_lockLetter_126 : decode cX8_lockLetter 126 = .ok (.goto 24, 3) := by decide +kernel
theorem dX8_lockLetter_129 : decode cX8_lockLetter 129 = .ok (.iload_n 1, 1) := by decide +kernel
theorem dX8_lockLetter_130 : decode cX8_lockLetter 130 = .ok (.iconst 2, 1) := by decide +kernel
theorem dX8_lockLetter_131 : decode cX8_lockLetter 131 = .ok (.if_icmp .ne 8, 3) := by decide +kernel
theorem dX8_lockLetter_134 : decode cX8_lockLetter 134 = .ok (.bipush 100, 2) := by decide +kernel
theorem dX8_lockLetter_136 : decode cX8_lockLetter 136 = .ok (.goto 14, 3) := by decide +kernel
theorem dX8_lockLetter_139 : decode cX8_lockLetter 139 = .ok (.iload_n 1, 1) := by decide +kernel
theorem dX8_lockLetter_140 : decode cX8_lockLetter 140 = .ok (.iconst 3, 1) := by decide +kernel
theorem dX8_lockLetter_141 : decode cX8_lockLetter 141 = .ok (.if_icmp .ne 8, 3) := by decide +kernel
theorem dX8_lockLetter_144 : decode cX8_lockLetter 144 = .ok (.bipush 101, 2) := by decide +kernel
theorem dX8_lockLetter_146 : decode cX8_lockLetter 146 = .ok (.goto 4, 3) := by decide +kernel
theorem dX8_lockLetter_149 : decode cX8_lockLetter 149 = .ok (.iconst 0, 1) := by decide +kernel
theorem dX8_lockLetter_150 : decode cX8_lockLetter 150 = .ok (.ireturn, 1) := by decide +kernel
theorem dX8_lockLetter_151 : decode cX8_lockLetter 151 = .ok (.iload_n 1, 1) := by decide +kernel
theorem dX8_lockLetter_152 : decode cX8_lockLetter 152 = .ok (.ifCond .ne 8, 3) := by decide +kernel
theorem dX8_lockLetter_155 : decode cX8_lockLetter 155 = .ok (.bipush 112, 2) := by decide +kernel
theorem dX8_lockLetter_157 : decode cX8_lockLetter 157 = .ok (.goto 44, 3) := by decide +kernel
theorem dX8_lockLetter_160 : decode cX8_lockLetter 160 = .ok (.iload_n 1, 1) := by decide +kernel
theorem dX8_lockLetter_161 : decode cX8_lockLetter 161 = .ok (.iconst 1, 1) := by decide +kernel
theorem dX8_lockLetter_162 : decode cX8_lockLetter 162 = .ok (.if_icmp .ne 8, 3) := by decide +kernel
theorem dX8_lockLetter_165 : decode cX8_lockLetter 165 = .ok (.bipush 108, 2) := by decide +kernel
theorem dX8_lockLetter_167 : decode cX8_lockLetter 167 = .ok (.goto 34, 3) := by decide +kernel
theorem dX8_lockLetter_170 : decode cX8_lockLetter 170 = .ok (.iload_n 1, 1) := by decide +kernel
theorem dX8_lockLetter_171 : decode cX8_lockLetter 171 = .ok (.iconst 2, 1) := by decide +kernel
theorem dX8_lockLetter_172 : decode cX8_lockLetter 172 = .ok (.if_icmp .ne 8, 3) := by decide +kernel
theorem dX8_lockLetter_175 : decode cX8_lockLetter 175 = .ok (.bipush 97, 2) := by decide +kernel
theorem dX8_lockLetter_177 : decode cX8_lockLetter 177 = .ok (.goto 24, 3) := by decide +kernel
theorem dX8_lockLetter_180 : decode cX8_lockLetter 180 = .ok (.iload_n 1, 1) := by decide +kernel
theorem dX8_lockLetter_181 : decode cX8_lockLetter 181 = .ok (.iconst 3, 1) := by decide +kernel
theorem dX8_lockLetter_182 : decode cX8_lockLetter 182 = .ok (.if_icmp .ne 8, 3) := by decide +kernel
theorem dX8_lockLetter_185 : decode cX8_lockLetter 185 = .ok (.bipush 116, 2) := by decide +kernel
theorem dX8_lockLetter_187 : decode cX8_lockLetter 187 = .ok (.goto 14, 3) := by decide +kernel
theorem dX8_lockLetter_190 : decode cX8_lockLetter 190 = .ok (.iload_n 1, 1) := by decide +kernel
theorem dX8_lockLetter_191 : decode cX8_lockLetter 191 = .ok (.iconst 4, 1) := by decide +kernel
theorem dX8_lockLetter_192 : decode cX8_lockLetter 192 = .ok (.if_icmp .ne 8, 3) := by decide +kernel
theorem dX8_lockLetter_195 : decode cX8_lockLetter 195 = .ok (.bipush 101, 2) := by decide +kernel
theorem dX8_lockLetter_197 : decode cX8_lockLetter 197 = .ok (.goto 4, 3) := by decide +kernel
theorem dX8_lockLetter_200 : decode cX8_lockLetter 200 = .ok (.iconst 0, 1) := by decide +kernel
theorem dX8_lockLetter_201 : decode cX8_lockLetter 201 = .ok (.ireturn, 1) := by decide +kernel
theorem dX8_sees_0 : decode cX8_sees 0 = .ok (.aload_n 0, 1) := by decide +kernel
theorem dX8_sees_1 : decode cX8_sees 1 = .ok (.getfield 58, 3) := by decide +kernel
theorem dX8_sees_4 : decode cX8_sees 4 = .ok (.aload_n 0, 1) := by decide +kernel
theorem dX8_sees_5 : decode cX8_sees 5 = .ok (.getfield 54, 3) := by decide +kernel
theorem dX8_sees_8 : decode cX8_sees 8 = .ok (.if_icmp .ge 15, 3) := by decide +kernel
theorem dX8_sees_11 : decode cX8_sees 11 = .ok (.aload_n 0, 1) := by decide +kernel
theorem dX8_sees_12 : decode cX8_sees 12 = .ok (.getfield 23, 3) := by decide +kernel
theorem dX8_sees_15 : decode cX8_sees 15 = .ok (.aload_n 0, 1) := by decide +kernel
theorem dX8_sees_16 : decode cX8_sees 16 = .ok (.getfield 58, 3) := by decide +kernel
theorem dX8_sees_19 : decode cX8_sees 19 = .ok (.caload, 1) := by decide +kernel
theorem dX8_sees_20 : decode cX8_sees 20 = .ok (.goto 4, 3) := by decide +kernel
theorem dX8_sees_23 : decode cX8_sees 23 = .ok (.iconst 0, 1) := by decide +kernel
theorem dX8_sees_24 : decode cX8_sees 24 = .ok (.ireturn, 1) := by decide +kernel
theorem dX8_takes_0 : decode cX8_takes 0 = .ok (.aload_n 0, 1) := by decide +kernel
theorem dX8_takes_1 : decode cX8_takes 1 = .ok (.aload_n 0, 1) := by decide +kernel
theorem dX8_takes_2 : decode cX8_takes 2 = .ok (.getfield 61, 3) := by decide +kernel
theorem dX8_takes_5 : decode cX8_takes 5 = .ok (.ifCond .ne 22, 3) := by decide +kernel
theorem dX8_takes_8 : decode cX8_takes 8 = .ok (.aload_n 0, 1) := by decide +kernel
theorem dX8_takes_9 : decode cX8_takes 9 = .ok (.getfield 58, 3) := by decide +kernel
theorem dX8_takes_12 : decode cX8_takes 12 = .ok (.aload_n 0, 1) := by decide +kernel
theorem dX8_takes_13 : decode cX8_takes 13 = .ok (.getfield 54, 3) := by decide +kernel
theorem dX8_takes_16 : decode cX8_takes 16 = .ok (.if_icmp .ge 11, 3) := by decide +kernel
theorem dX8_takes_19 : decode cX8_takes 19 = .ok (.aload_n 0, 1) := by decide +kernel
theorem dX8_takes_20 : decode cX8_takes 20 = .ok (.invokevirtual 65, 3) := by decide +kernel
theorem dX8_takes_23 : decode cX8_takes 23 = .ok (.iload_n 1, 1) := by decide +kernel
theorem dX8_takes_24 : decode cX8_takes 24 = .ok (.if_icmp .eq 7, 3) := by decide +kernel
theorem dX8_takes_27 : decode cX8_takes 27 = .ok (.iconst 1, 1) := by decide +kernel
theorem dX8_takes_28 : decode cX8_takes 28 = .ok (.goto 4, 3) := by decide +kernel
theorem dX8_takes_31 : decode cX8_takes 31 = .ok (.iconst 0, 1) := by decide +kernel
theorem dX8_takes_32 : decode cX8_takes 32 = .ok (.putfield 61, 3) := by decide +kernel
theorem dX8_takes_35 : decode cX8_takes 35 = .ok (.aload_n 0, 1) := by decide +kernel
theorem dX8_takes_36 : decode cX8_takes 36 = .ok (.dup, 1) := by decide +kernel
theorem dX8_takes_37 : decode cX8_takes 37 = .ok (.getfield 58, 3) := by decide +kernel
theorem dX8_takes_40 : decode cX8_takes 40 = .ok (.aload_n 0, 1) := by decide +kernel
theorem dX8_takes_41 : decode cX8_takes 41 = .ok (.getfield 61, 3) := by decide +kernel
theorem dX8_takes_44 : decode cX8_takes 44 = .ok (.ifCond .eq 7, 3) := by decide +kernel
theorem dX8_takes_47 : decode cX8_takes 47 = .ok (.iconst 0, 1) := by decide +kernel
theorem dX8_takes_48 : decode cX8_takes 48 = .ok (.goto 4, 3) := by decide +kernel
theorem dX8_takes_51 : decode cX8_takes 51 = .ok (.iconst 1, 1) := by decide +kernel
theorem dX8_takes_52 : decode cX8_takes 52 = .ok (.iadd, 1) := by decide +kernel
theorem dX8_takes_53 : decode cX8_takes 53 = .ok (.putfield 58, 3) := by decide +kernel
theorem dX8_takes_56 : decode cX8_takes 56 = .ok (.return_, 1) := by decide +kernel
theorem dX8_seesDigit_0 : decode cX8_seesDigit 0 = .ok (.aload_n 0, 1) := by decide +kernel
theorem dX8_seesDigit_1 : decode cX8_seesDigit 1 = .ok (.getfield 58, 3) := by decide +kernel
theorem dX8_seesDigit_4 : decode cX8_seesDigit 4 = .ok (.aload_n 0, 1) := by decide +kernel
theorem dX8_seesDigit_5 : decode cX8_seesDigit 5 = .ok (.getfield 54, 3) := by decide +kernel
theorem dX8_seesDigit_8 : decode cX8_seesDigit 8 = .ok (.if_icmp .ge 21, 3) := by decide +kernel
theorem dX8_seesDigit_11 : decode cX8_seesDigit 11 = .ok (.aload_n 0, 1) := by decide +kernel
theorem dX8_seesDigit_12 : decode cX8_seesDigit 12 = .ok (.invokevirtual 65, 3) := by decide +kernel
theorem dX8_seesDigit_15 : decode cX8_seesDigit 15 = .ok (.bipush 48, 2) := by decide +kernel
theorem dX8_seesDigit_17 : decode cX8_seesDigit 17 = .ok (.bipush 57, 2) := by decide +kernel
theorem dX8_seesDigit_19 : decode cX8_seesDigit 19 = .ok (.invokestatic 30, 3) := by decide +kernel
theorem dX8_seesDigit_22 : decode cX8_seesDigit 22 = .ok (.ifCond .eq 7, 3) := by decide +kernel
theorem dX8_seesDigit_25 : decode cX8_seesDigit 25 = .ok (.iconst 1, 1) := by decide +kernel
theorem dX8_seesDigit_26 : decode cX8_seesDigit 26 = .ok (.goto 4, 3) := by decide +kernel
theorem dX8_seesDigit_29 : decode cX8_seesDigit 29 = .ok (.iconst 0, 1) := by decide +kernel
theorem dX8_seesDigit_30 : decode cX8_seesDigit 30 = .ok (.ireturn, 1) := by decide +kernel
theorem dX8_number_0 : decode cX8_number 0 = .ok (.iconst 0, 1) := by decide +kernel
theorem dX8_number_1 : decode cX8_number 1 = .ok (.istore_n 3, 1) := by decide +kernel
theorem dX8_number_2 : decode cX8_number 2 = .ok (.iconst 0, 1) := by decide +kernel
theorem dX8_number_3 : decode cX8_number 3 = .ok (.istore 4, 2) := by decide +kernel
theorem dX8_number_5 : decode cX8_number 5 = .ok (.aload_n 0, 1) := by decide +kernel
theorem dX8_number_6 : decode cX8_number 6 = .ok (.getfield 61, 3) := by decide +kernel
theorem dX8_number_9 : decode cX8_number 9 = .ok (.ifCond .ne 89, 3) := by decide +kernel
theorem dX8_number_12 : decode cX8_number 12 = .ok (.iload 4, 2) := by decide +kernel
theorem dX8_number_14 : decode cX8_number 14 = .ok (.iload_n 2, 1) := by decide +kernel
theorem dX8_number_15 : decode cX8_number 15 = .ok (.if_icmp .ge 83, 3) := by decide +kernel
theorem dX8_number_18 : decode cX8_number 18 = .ok (.iload 4, 2) := by decide +kernel
theorem dX8_number_20 : decode cX8_number 20 = .ok (.iload_n 1, 1) := by decide +kernel
theorem dX8_number_21 : decode cX8_number 21 = .ok (.if_icmp .lt 10, 3) := by decide +kernel
theorem dX8_number_24 : decode cX8_number 24 = .ok (.aload_n 0, 1) := by decide +kernel
theorem dX8_number_25 : decode cX8_number 25 = .ok (.invokevirtual 69, 3) := by decide +kernel
theorem dX8_number_28 : decode cX8_number 28 = .ok (.ifCond .eq 70, 3) := by decide +kernel
theorem dX8_number_31 : decode cX8_number 31 = .ok (.aload_n 0, 1) := by decide +kernel
theorem dX8_number_32 : decode cX8_number 32 = .ok (.aload_n 0, 1) := by decide +kernel
theorem dX8_number_33 : decode cX8_number 33 = .ok (.invokevirtual 69, 3) := by decide +kernel
theorem dX8_number_36 : decode cX8_number 36 = .ok (.ifCond .ne 7, 3) := by decide +kernel
theorem dX8_number_39 : decode cX8_number 39 = .ok (.iconst 1, 1) := by decide +kernel
theorem dX8_number_40 : decode cX8_number 40 = .ok (.goto 4, 3) := by decide +kernel
theorem dX8_number_43 : decode cX8_number 43 = .ok (.iconst 0, 1) := by decide +kernel
theorem dX8_number_44 : decode cX8_number 44 = .ok (.putfield 61, 3) := by decide +kernel
theorem dX8_number_47 : decode cX8_number 47 = .ok (.bipush 10, 2) := by decide +kernel
theorem dX8_number_49 : decode cX8_number 49 = .ok (.iload_n 3, 1) := by decide +kernel
theorem dX8_number_50 : decode cX8_number 50 = .ok (.imul, 1) := by decide +kernel
theorem dX8_number_51 : decode cX8_number 51 = .ok (.aload_n 0, 1) := by decide +kernel
theorem dX8_number_52 : decode cX8_number 52 = .ok (.getfield 61, 3) := by decide +kernel
theorem dX8_number_55 : decode cX8_number 55 = .ok (.ifCond .eq 7, 3) := by decide +kernel
theorem dX8_number_58 : decode cX8_number 58 = .ok (.iconst 0, 1) := by decide +kernel
theorem dX8_number_59 : decode cX8_number 59 = .ok (.goto 10, 3) := by decide +kernel
theorem dX8_number_62 : decode cX8_number 62 = .ok (.aload_n 0, 1) := by decide +kernel
theorem dX8_number_63 : decode cX8_number 63 = .ok (.invokevirtual 65, 3) := by decide +kernel
theorem dX8_number_66 : decode cX8_number 66 = .ok (.bipush 48, 2) := by decide +kernel
theorem dX8_number_68 : decode cX8_number 68 = .ok (.isub, 1) := by decide +kernel
theorem dX8_number_69 : decode cX8_number 69 = .ok (.iadd, 1) := by decide +kernel
theorem dX8_number_70 : decode cX8_number 70 = .ok (.istore_n 3, 1) := by decide +kernel
theorem dX8_number_71 : decode cX8_number 71 = .ok (.aload_n 0, 1) := by decide +kernel
theorem dX8_number_72 : decode cX8_number 72 = .ok (.dup, 1) := by decide +kernel
theorem dX8_number_73 : decode cX8_number 73 = .ok (.getfield 58, 3) := by decide +kernel
theorem dX8_number_76 : decode cX8_number 76 = .ok (.aload_n 0, 1) := by decide +kernel
theorem dX8_number_77 : decode cX8_number 77 = .ok (.getfield 61, 3) := by decide +kernel
theorem dX8_number_80 : decode cX8_number 80 = .ok (.ifCond .eq 7, 3) := by decide +kernel
theorem dX8_number_83 : decode cX8_number 83 = .ok (.iconst 0, 1) := by decide +kernel
theorem dX8_number_84 : decode cX8_number 84 = .ok (.goto 4, 3) := by decide +kernel
theorem dX8_number_87 : decode cX8_number 87 = .ok (.iconst 1, 1) := by decide +kernel
theorem dX8_number_88 : decode cX8_number 88 = .ok (.iadd, 1) := by decide +kernel
theorem dX8_number_89 : decode cX8_number 89 = .ok (.putfield 58, 3) := by decide +kernel
theorem dX8_number_92 : decode cX8_number 92 = .ok (.iinc 4 1, 3) := by decide +kernel
theorem dX8_number_95 : decode cX8_number 95 = .ok (.goto (-90), 3) := by decide +kernel
theorem dX8_number_98 : decode cX8_number 98 = .ok (.iload_n 3, 1) := by decide +kernel
theorem dX8_number_99 : decode cX8_number 99 = .ok (.ireturn, 1) := by decide +kernel
theorem dX8_readsLock_0 : decode cX8_readsLock 0 = .ok (.aload_n 0, 1) := by decide +kernel
theorem dX8_readsLock_1 : decode cX8_readsLock 1 = .ok (.bipush (-5), 2) := by decide +kernel
theorem dX8_readsLock_3 : decode cX8_readsLock 3 = .ok (.putfield 73, 3) := by decide +kernel
theorem dX8_readsLock_6 : decode cX8_readsLock 6 = .ok (.iconst 0, 1) := by decide +kernel
theorem dX8_readsLock_7 : decode cX8_readsLock 7 = .ok (.istore_n 1, 1) := by decide +kernel
theorem dX8_readsLock_8 : decode cX8_readsLock 8 = .ok (.iload_n 1, 1) := by decide +kernel
theorem dX8_readsLock_9 : decode cX8_readsLock 9 = .ok (.iconst 4, 1) := by decide +kernel
theorem dX8_readsLock_10 : decode cX8_readsLock 10 = .ok (.if_icmp .ge 44, 3) := by decide +kernel
theorem dX8_readsLock_13 : decode cX8_readsLock 13 = .ok (.aload_n 0, 1) := by decide +kernel
theorem dX8_readsLock_14 : decode cX8_readsLock 14 = .ok (.aload_n 0, 1) := by decide +kernel
theorem dX8_readsLock_15 : decode cX8_readsLock 15 = .ok (.getfield 58, 3) := by decide +kernel
theorem dX8_readsLock_18 : decode cX8_readsLock 18 = .ok (.aload_n 0, 1) := by decide +kernel
theorem dX8_readsLock_19 : decode cX8_readsLock 19 = .ok (.getfield 54, 3) := by decide +kernel
theorem dX8_readsLock_22 : decode cX8_readsLock 22 = .ok (.if_icmp .ge 19, 3) := by decide +kernel
theorem dX8_readsLock_25 : decode cX8_readsLock 25 = .ok (.aload_n 0, 1) := by decide +kernel
theorem dX8_readsLock_26 : decode cX8_readsLock 26 = .ok (.invokevirtual 65, 3) := by decide +kernel
theorem dX8_readsLock_29 : decode cX8_readsLock 29 = .ok (.iload_n 1, 1) := by decide +kernel
theorem dX8_readsLock_30 : decode cX8_readsLock 30 = .ok (.iconst 0, 1) := by decide +kernel
theorem dX8_readsLock_31 : decode cX8_readsLock 31 = .ok (.invokestatic 76, 3) := by decide +kernel
theorem dX8_readsLock_34 : decode cX8_readsLock 34 = .ok (.if_icmp .ne 7, 3) := by decide +kernel
theorem dX8_readsLock_37 : decode cX8_readsLock 37 = .ok (.iload_n 1, 1) := by decide +kernel
theorem dX8_readsLock_38 : decode cX8_readsLock 38 = .ok (.goto 7, 3) := by decide +kernel
theorem dX8_readsLock_41 : decode cX8_readsLock 41 = .ok (.aload_n 0, 1) := by decide +kernel
theorem dX8_readsLock_42 : decode cX8_readsLock 42 = .ok (.getfield 73, 3) := by decide +kernel
theorem dX8_readsLock_45 : decode cX8_readsLock 45 = .ok (.putfield 73, 3) := by decide +kernel
theorem dX8_readsLock_48 : decode cX8_readsLock 48 = .ok (.iinc 1 1, 3) := by decide +kernel
theorem dX8_readsLock_51 : decode cX8_readsLock 51 = .ok (.goto (-43), 3) := by decide +kernel
theorem dX8_readsLock_54 : decode cX8_readsLock 54 = .ok (.aload_n 0, 1) := by decide +kernel
theorem dX8_readsLock_55 : decode cX8_readsLock 55 = .ok (.aload_n 0, 1) := by decide +kernel
theorem dX8_readsLock_56 : decode cX8_readsLock 56 = .ok (.getfield 61, 3) := by decide +kernel
theorem dX8_readsLock_59 : decode cX8_readsLock 59 = .ok (.ifCond .ne 10, 3) := by decide +kernel
theorem dX8_readsLock_62 : decode cX8_readsLock 62 = .ok (.aload_n 0, 1) := by decide +kernel
theorem dX8_readsLock_63 : decode cX8_readsLock 63 = .ok (.getfield 73, 3) := by decide +kernel
theorem dX8_readsLock_66 : decode cX8_readsLock 66 = .ok (.ifCond .ge 7, 3) := by decide +kernel
theorem dX8_readsLock_69 : decode cX8_readsLock 69 = .ok (.iconst 1, 1) := by decide +kernel
theorem dX8_readsLock_70 : decode cX8_readsLock 70 = .ok (.goto 4, 3) := by decide +kernel
theorem dX8_readsLock_73 : decode cX8_readsLock 73 = .ok (.iconst 0, 1) := by decide +kernel
theorem dX8_readsLock_74 : decode cX8_readsLock 74 = .ok (.putfield 61, 3) := by decide +kernel
theorem dX8_readsLock_77 : decode cX8_readsLock 77 = .ok (.iconst 0, 1) := by decide +kernel
theorem dX8_readsLock_78 : decode cX8_readsLock 78 = .ok (.istore_n 1, 1) := by decide +kernel
theorem dX8_readsLock_79 : decode cX8_readsLock 79 = .ok (.aload_n 0, 1) := by decide +kernel
theorem dX8_readsLock_80 : decode cX8_readsLock 80 = .ok (.getfield 61, 3) := by decide +kernel
theorem dX8_readsLock_83 : decode cX8_readsLock 83 = .ok (.ifCond .ne 32, 3) := by decide +kernel
theorem dX8_readsLock_86 : decode cX8_readsLock 86 = .ok (.aload_n 0, 1) := by decide +kernel
theorem dX8_readsLock_87 : decode cX8_readsLock 87 = .ok (.getfield 73, 3) := by decide +kernel
theorem dX8_readsLock_90 : decode cX8_readsLock 90 = .ok (.iload_n 1, 1) := by decide +kernel
theorem dX8_readsLock_91 : decode cX8_readsLock 91 = .ok (.invokestatic 76, 3) := by decide +kernel
theorem dX8_readsLock_94 : decode cX8_readsLock 94 = .ok (.ifCond .le 21, 3) := by decide +kernel
theorem dX8_readsLock_97 : decode cX8_readsLock 97 = .ok (.aload_n 0, 1) := by decide +kernel
theorem dX8_readsLock_98 : decode cX8_readsLock 98 = .ok (.aload_n 0, 1) := by decide +kernel
theorem dX8_readsLock_99 : decode cX8_readsLock 99 = .ok (.getfield 73, 3) := by decide +kernel
theorem dX8_readsLock_102 : decode cX8_readsLock 102 = .ok (.iload_n 1, 1) := by decide +kernel
theorem dX8_readsLock_103 : decode cX8_readsLock 103 = .ok (.invokestatic 76, 3) := by decide +kernel
theorem dX8_readsLock_106 : decode cX8_readsLock 106 = .ok (.invokevirtual 80, 3) := by decide +kernel
theorem dX8_readsLock_109 : decode cX8_readsLock 109 = .ok (.iinc 1 1, 3) := by decide +kernel
theorem dX8_readsLock_112 : decode cX8_readsLock 112 = .ok (.goto (-33), 3) := by decide +kernel
theorem dX8_readsLock_115 : decode cX8_readsLock 115 = .ok (.aload_n 0, 1) := by decide +kernel
theorem dX8_readsLock_116 : decode cX8_readsLock 116 = .ok (.bipush (-5), 2) := by decide +kernel
theorem dX8_readsLock_118 : decode cX8_readsLock 118 = .ok (.putfield 84, 3) := by decide +kernel
theorem dX8_readsLock_121 : decode cX8_readsLock 121 = .ok (.aload_n 0, 1) := by decide +kernel
theorem dX8_readsLock_122 : decode cX8_readsLock 122 = .ok (.getfield 61, 3) := by decide +kernel
theorem dX8_readsLock_125 : decode cX8_readsLock 125 = .ok (.ifCond .ne 43, 3) := by decide +kernel
theorem dX8_readsLock_128 : decode cX8_readsLock 128 = .ok (.aload_n 0, 1) := by decide +kernel
theorem dX8_readsLock_129 : decode cX8_readsLock 129 = .ok (.getfield 73, 3) := by decide +kernel
theorem dX8_readsLock_132 : decode cX8_readsLock 132 = .ok (.ifCond .eq 36, 3) := by decide +kernel
theorem dX8_readsLock_135 : decode cX8_readsLock 135 = .ok (.aload_n 0, 1) := by decide +kernel
theorem dX8_readsLock_136 : decode cX8_readsLock 136 = .ok (.bipush 32, 2) := by decide +kernel
theorem dX8_readsLock_138 : decode cX8_readsLock 138 = .ok (.invokevirtual 80, 3) := by decide +kernel
theorem dX8_readsLock_141 : decode cX8_readsLock 141 = .ok (.aload_n 0, 1) := by decide +kernel
theorem dX8_readsLock_142 : decode cX8_readsLock 142 = .ok (.aload_n 0, 1) := by decide +kernel
theorem dX8_readsLock_143 : decode cX8_readsLock 143 = .ok (.getfield 73, 3) := by decide +kernel
theorem dX8_readsLock_146 : decode cX8_readsLock 146 = .ok (.iconst 2, 1) := by decide +kernel
theorem dX8_readsLock_147 : decode cX8_readsLock 147 = .ok (.if_icmp .ne 12, 3) := by decide +kernel
theorem dX8_readsLock_150 : decode cX8_readsLock 150 = .ok (.aload_n 0, 1) := by decide +kernel
theorem dX8_readsLock_151 : decode cX8_readsLock 151 = .ok (.iconst 4, 1) := by decide +kernel
theorem dX8_readsLock_152 : decode cX8_readsLock 152 = .ok (.iconst 4, 1) := by decide +kernel
theorem dX8_readsLock_153 : decode cX8_readsLock 153 = .ok (.invokevirtual 87, 3) := by decide +kernel
theorem dX8_readsLock_156 : decode cX8_readsLock 156 = .ok (.goto 9, 3) := by decide +kernel
theorem dX8_readsLock_159 : decode cX8_readsLock 159 = .ok (.aload_n 0, 1) := by decide +kernel
theorem dX8_readsLock_160 : decode cX8_readsLock 160 = .ok (.iconst 1, 1) := by decide +kernel
theorem dX8_readsLock_161 : decode cX8_readsLock 161 = .ok (.iconst 2, 1) := by decide +kernel
theorem dX8_readsLock_162 : decode cX8_readsLock 162 = .ok (.invokevirtual 87, 3) := by decide +kernel
theorem dX8_readsLock_165 : decode cX8_readsLock 165 = .ok (.putfield 84, 3) := by decide +kernel
theorem dX8_readsLock_168 : decode cX8_readsLock 168 = .ok (.return_, 1) := by decide +kernel
theorem dX8_faultOfText_0 : decode cX8_faultOfText 0 = .ok (.aload_n 0, 1) := by decide +kernel
theorem dX8_faultOfText_1 : decode cX8_faultOfText 1 = .ok (.iconst 0, 1) := by decide +kernel
theorem dX8_faultOfText_2 : decode cX8_faultOfText 2 = .ok (.putfield 58, 3) := by decide +kernel
theorem dX8_faultOfText_5 : decode cX8_faultOfText 5 = .ok (.aload_n 0, 1) := by decide +kernel
theorem dX8_faultOfText_6 : decode cX8_faultOfText 6 = .ok (.iconst 0, 1) := by decide +kernel
theorem dX8_faultOfText_7 : decode cX8_faultOfText 7 = .ok (.putfield 61, 3) := by decide +kernel
theorem dX8_faultOfText_10 : decode cX8_faultOfText 10 = .ok (.aload_n 0, 1) := by decide +kernel
theorem dX8_faultOfText_11 : decode cX8_faultOfText 11 = .ok (.aload_n 0, 1) := by decide +kernel
theorem dX8_faultOfText_12 : decode cX8_faultOfText 12 = .ok (.iconst 1, 1) := by decide +kernel
theorem dX8_faultOfText_13 : decode cX8_faultOfText 13 = .ok (.iconst 2, 1) := by decide +kernel
theorem dX8_faultOfText_14 : decode cX8_faultOfText 14 = .ok (.invokevirtual 87, 3) := by decide +kernel
theorem dX8_faultOfText_17 : decode cX8_faultOfText 17 = .ok (.putfield 90, 3) := by decide +kernel
theorem dX8_faultOfText_20 : decode cX8_faultOfText 20 = .ok (.aload_n 0, 1) := by decide +kernel
theorem dX8_faultOfText_21 : decode cX8_faultOfText 21 = .ok (.bipush 32, 2) := by decide +kernel
theorem dX8_faultOfText_23 : decode cX8_faultOfText 23 = .ok (.invokevirtual 80, 3) := by decide +kernel
theorem dX8_faultOfText_26 : decode cX8_faultOfText 26 = .ok (.aload_n 0, 1) := by decide +kernel
theorem dX8_faultOfText_27 : decode cX8_faultOfText 27 = .ok (.getfield 61, 3) := by decide +kernel
theorem dX8_faultOfText_30 : decode cX8_faultOfText 30 = .ok (.ifCond .ne 7, 3) := by decide +kernel
theorem dX8_faultOfText_33 : decode cX8_faultOfText 33 = .ok (.aload_n 0, 1) := by decide +kernel
theorem dX8_faultOfText_34 : decode cX8_faultOfText 34 = .ok (.invokevirtual 93, 3) := by decide +kernel
theorem dX8_faultOfText_37 : decode cX8_faultOfText 37 = .ok (.aload_n 0, 1) := by decide +kernel
theorem dX8_faultOfText_38 : decode cX8_faultOfText 38 = .ok (.getfield 61, 3) := by decide +kernel
theorem dX8_faultOfText_41 : decode cX8_faultOfText 41 = .ok (.ifCond .ne 14, 3) := by decide +kernel
theorem dX8_faultOfText_44 : decode cX8_faultOfText 44 = .ok (.aload_n 0, 1) := by decide +kernel
theorem dX8_faultOfText_45 : decode cX8_faultOfText 45 = .ok (.getfield 58, 3) := by decide +kernel
theorem dX8_faultOfText_48 : decode cX8_faultOfText 48 = .ok (.aload_n 0, 1) := by decide +kernel
theorem dX8_faultOfText_49 : decode cX8_faultOfText 49 = .ok (.getfield 54, 3) := by decide +kernel
theorem dX8_faultOfText_52 : decode cX8_faultOfText 52 = .ok (.if_icmp .ge 10, 3) := by decide +kernel
theorem dX8_faultOfText_55 : decode cX8_faultOfText 55 = .ok (.aload_n 0, 1) := by decide +kernel
theorem dX8_faultOfText_56 : decode cX8_faultOfText 56 = .ok (.getfield 58, 3) := by decide +kernel
theorem dX8_faultOfText_59 : decode cX8_faultOfText 59 = .ok (.goto 5, 3) := by decide +kernel
theorem dX8_faultOfText_62 : decode cX8_faultOfText 62 = .ok (.bipush (-5), 2) := by decide +kernel
theorem dX8_faultOfText_64 : decode cX8_faultOfText 64 = .ok (.ireturn, 1) := by decide +kernel
theorem dX8_addBox_0 : decode cX8_addBox 0 = .ok (.aload_n 0, 1) := by decide +kernel
theorem dX8_addBox_1 : decode cX8_addBox 1 = .ok (.invokevirtual 96, 3) := by decide +kernel
theorem dX8_addBox_4 : decode cX8_addBox 4 = .ok (.istore_n 1, 1) := by decide +kernel
theorem dX8_addBox_5 : decode cX8_addBox 5 = .ok (.iload_n 1, 1) := by decide +kernel
theorem dX8_addBox_6 : decode cX8_addBox 6 = .ok (.ifCond .lt 8, 3) := by decide +kernel
theorem dX8_addBox_9 : decode cX8_addBox 9 = .ok (.bipush (-100), 2) := by decide +kernel
theorem dX8_addBox_11 : decode cX8_addBox 11 = .ok (.iload_n 1, 1) := by decide +kernel
theorem dX8_addBox_12 : decode cX8_addBox 12 = .ok (.isub, 1) := by decide +kernel
theorem dX8_addBox_13 : decode cX8_addBox 13 = .ok (.ireturn, 1) := by decide +kernel
theorem dX8_addBox_14 : decode cX8_addBox 14 = .ok (.aload_n 0, 1) := by decide +kernel
theorem dX8_addBox_15 : decode cX8_addBox 15 = .ok (.getfield 73, 3) := by decide +kernel
theorem dX8_addBox_18 : decode cX8_addBox 18 = .ok (.iconst 1, 1) := by decide +kernel
theorem dX8_addBox_19 : decode cX8_addBox 19 = .ok (.if_icmp .eq 11, 3) := by decide +kernel
theorem dX8_addBox_22 : decode cX8_addBox 22 = .ok (.aload_n 0, 1) := by decide +kernel
theorem dX8_addBox_23 : decode cX8_addBox 23 = .ok (.getfield 73, 3) := by decide +kernel
theorem dX8_addBox_26 : decode cX8_addBox 26 = .ok (.iconst 2, 1) := by decide +kernel
theorem dX8_addBox_27 : decode cX8_addBox 27 = .ok (.if_icmp .le 7, 3) := by decide +kernel
theorem dX8_addBox_30 : decode cX8_addBox 30 = .ok (.iconst 1, 1) := by decide +kernel
theorem dX8_addBox_31 : decode cX8_addBox 31 = .ok (.goto 4, 3) := by decide +kernel
theorem dX8_addBox_34 : decode cX8_addBox 34 = .ok (.iconst 0, 1) := by decide +kernel
theorem dX8_addBox_35 : decode cX8_addBox 35 = .ok (.istore_n 2, 1) := by decide +kernel
theorem dX8_addBox_36 : decode cX8_addBox 36 = .ok (.aload_n 0, 1) := by decide +kernel
theorem dX8_addBox_37 : decode cX8_addBox 37 = .ok (.aload_n 0, 1) := by decide +kernel
theorem dX8_addBox_38 : decode cX8_addBox 38 = .ok (.getfield 90, 3) := by decide +kernel
theorem dX8_addBox_41 : decode cX8_addBox 41 = .ok (.invokevirtual 99, 3) := by decide +kernel
theorem dX8_addBox_44 : decode cX8_addBox 44 = .ok (.ifCond .ne 18, 3) := by decide +kernel
theorem dX8_addBox_47 : decode cX8_addBox 47 = .ok (.iload_n 2, 1) := by decide +kernel
theorem dX8_addBox_48 : decode cX8_addBox 48 = .ok (.ifCond .eq 16, 3) := by decide +kernel
theorem dX8_addBox_51 : decode cX8_addBox 51 = .ok (.aload_n 0, 1) := by decide +kernel
theorem dX8_addBox_52 : decode cX8_addBox 52 = .ok (.aload_n 0, 1) := by decide +kernel
theorem dX8_addBox_53 : decode cX8_addBox 53 = .ok (.getfield 84, 3) := by decide +kernel
theorem dX8_addBox_56 : decode cX8_addBox 56 = .ok (.invokevirtual 102, 3) := by decide +kernel
theorem dX8_addBox_59 : decode cX8_addBox 59 = .ok (.ifCond .eq 5, 3) := by decide +kernel
theorem dX8_addBox_62 : decode cX8_addBox 62 = .ok (.iconst (-1), 1) := by decide +kernel
theorem dX8_addBox_63 : decode cX8_addBox 63 = .ok (.ireturn, 1) := by decide +kernel
theorem dX8_addBox_64 : decode cX8_addBox 64 = .ok (.aload_n 0, 1) := by decide +kernel
theorem dX8_addBox_65 : decode cX8_addBox 65 = .ok (.invokevirtual 105, 3) := by decide +kernel
theorem dX8_addBox_68 : decode cX8_addBox 68 = .ok (.ifCond .eq 6, 3) := by decide +kernel
theorem dX8_addBox_71 : decode cX8_addBox 71 = .ok (.bipush (-4), 2) := by decide +kernel
theorem dX8_addBox_73 : decode cX8_addBox 73 = .ok (.ireturn, 1) := by decide +kernel
theorem dX8_addBox_74 : decode cX8_addBox 74 = .ok (.aload_n 0, 1) := by decide +kernel
theorem dX8_addBox_75 : decode cX8_addBox 75 = .ok (.getfield 7, 3) := by decide +kernel
theorem dX8_addBox_78 : decode cX8_addBox 78 = .ok (.iconst 0, 1) := by decide +kernel
theorem dX8_addBox_79 : decode cX8_addBox 79 = .ok (.iaload, 1) := by decide +kernel
theorem dX8_addBox_80 : decode cX8_addBox 80 = .ok (.istore_n 3, 1) := by decide +kernel
theorem dX8_addBox_81 : decode cX8_addBox 81 = .ok (.iload_n 3, 1) := by decide +kernel
theorem dX8_addBox_82 : decode cX8_addBox 82 = .ok (.bipush 12, 2) := by decide +kernel
theorem dX8_addBox_84 : decode cX8_addBox 84 = .ok (.if_icmp .ne 6, 3) := by decide +kernel
theorem dX8_addBox_87 : decode cX8_addBox 87 = .ok (.bipush (-3), 2) := by decide +kernel
theorem dX8_addBox_89 : decode cX8_addBox 89 = .ok (.ireturn, 1) := by decide +kernel
theorem dX8_addBox_90 : decode cX8_addBox 90 = .ok (.aload_n 0, 1) := by decide +kernel
theorem dX8_addBox_91 : decode cX8_addBox 91 = .ok (.getfield 7, 3) := by decide +kernel
theorem dX8_addBox_94 : decode cX8_addBox 94 = .ok (.bipush 20, 2) := by decide +kernel
theorem dX8_addBox_96 : decode cX8_addBox 96 = .ok (.iload_n 3, 1) := by decide +kernel
theorem dX8_addBox_97 : decode cX8_addBox 97 = .ok (.iadd, 1) := by decide +kernel
theorem dX8_addBox_98 : decode cX8_addBox 98 = .ok (.aload_n 0, 1) := by decide +kernel
theorem dX8_addBox_99 : decode cX8_addBox 99 = .ok (.getfield 90, 3) := by decide +kernel
theorem dX8_addBox_102 : decode cX8_addBox 102 = .ok (.iastore, 1) := by decide +kernel
theorem dX8_addBox_103 : decode cX8_addBox 103 = .ok (.aload_n 0, 1) := by decide +kernel
theorem dX8_addBox_104 : decode cX8_addBox 104 = .ok (.getfield 7, 3) := by decide +kernel
theorem dX8_addBox_107 : decode cX8_addBox 107 = .ok (.bipush 32, 2) := by decide +kernel
theorem dX8_addBox_109 : decode cX8_addBox 109 = .ok (.iload_n 3, 1) := by decide +kernel
theorem dX8_addBox_110 : decode cX8_addBox 110 = .ok (.iadd, 1) := by decide +kernel
theorem dX8_addBox_111 : decode cX8_addBox 111 = .ok (.aload_n 0, 1) := by decide +kernel
theorem dX8_addBox_112 : decode cX8_addBox 112 = .ok (.getfield 73, 3) := by decide +kernel
theorem dX8_addBox_115 : decode cX8_addBox 115 = .ok (.iastore, 1) := by decide +kernel
theorem dX8_addBox_116 : decode cX8_addBox 116 = .ok (.aload_n 0, 1) := by decide +kernel
theorem dX8_addBox_117 : decode cX8_addBox 117 = .ok (.getfield 7, 3) := by decide +kernel
theorem dX8_addBox_120 : decode cX8_addBox 120 = .ok (.bipush 44, 2) := by decide +kernel
theorem dX8_addBox_122 : decode cX8_addBox 122 = .ok (.iload_n 3, 1) := by decide +kernel
theorem dX8_addBox_123 : decode cX8_addBox 123 = .ok (.iadd, 1) := by decide +kernel
theorem dX8_addBox_124 : decode cX8_addBox 124 = .ok (.aload_n 0, 1) := by decide +kernel
theorem dX8_addBox_125 : decode cX8_addBox 125 = .ok (.getfield 84, 3) := by decide +kernel
theorem dX8_addBox_128 : decode cX8_addBox 128 = .ok (.iastore, 1) := by decide +kernel
theorem dX8_addBox_129 : decode cX8_addBox 129 = .ok (.aload_n 0, 1) := by decide +kernel
theorem dX8_addBox_130 : decode cX8_addBox 130 = .ok (.getfield 7, 3) := by decide +kernel
theorem dX8_addBox_133 : decode cX8_addBox 133 = .ok (.bipush 56, 2) := by decide +kernel
theorem dX8_addBox_135 : decode cX8_addBox 135 = .ok (.iload_n 3, 1) := by decide +kernel
theorem dX8_addBox_136 : decode cX8_addBox 136 = .ok (.iadd, 1) := by decide +kernel
theorem dX8_addBox_137 : decode cX8_addBox 137 = .ok (.iconst 0, 1) := by decide +kernel
theorem dX8_addBox_138 : decode cX8_addBox 138 = .ok (.iastore, 1) := by decide +kernel
theorem dX8_addBox_139 : decode cX8_addBox 139 = .ok (.aload_n 0, 1) := by decide +kernel
theorem dX8_addBox_140 : decode cX8_addBox 140 = .ok (.getfield 7, 3) := by decide +kernel
theorem dX8_addBox_143 : decode cX8_addBox 143 = .ok (.iconst 0, 1) := by decide +kernel
theorem dX8_addBox_144 : decode cX8_addBox 144 = .ok (.dup2, 1) := by decide +kernel
theorem dX8_addBox_145 : decode cX8_addBox 145 = .ok (.iaload, 1) := by decide +kernel
theorem dX8_addBox_146 : decode cX8_addBox 146 = .ok (.iconst 1, 1) := by decide +kernel
theorem dX8_addBox_147 : decode cX8_addBox 147 = .ok (.iadd, 1) := by decide +kernel
theorem dX8_addBox_148 : decode cX8_addBox 148 = .ok (.iastore, 1) := by decide +kernel
theorem dX8_addBox_149 : decode cX8_addBox 149 = .ok (.iload_n 3, 1) := by decide +kernel
theorem dX8_addBox_150 : decode cX8_addBox 150 = .ok (.ireturn, 1) := by decide +kernel
theorem dX8_addProp_0 : decode cX8_addProp 0 = .ok (.aload_n 0, 1) := by decide +kernel
theorem dX8_addProp_1 : decode cX8_addProp 1 = .ok (.iload_n 1, 1) := by decide +kernel
theorem dX8_addProp_2 : decode cX8_addProp 2 = .ok (.invokevirtual 99, 3) := by decide +kernel
theorem dX8_addProp_5 : decode cX8_addProp 5 = .ok (.ifCond .eq 5, 3) := by decide +kernel
theorem dX8_addProp_8 : decode cX8_addProp 8 = .ok (.iconst (-1), 1) := by decide +kernel
theorem dX8_addProp_9 : decode cX8_addProp 9 = .ok (.ireturn, 1) := by decide +kernel
theorem dX8_addProp_10 : decode cX8_addProp 10 = .ok (.aload_n 0, 1) := by decide +kernel
theorem dX8_addProp_11 : decode cX8_addProp 11 = .ok (.invokevirtual 105, 3) := by decide +kernel
theorem dX8_addProp_14 : decode cX8_addProp 14 = .ok (.ifCond .eq 6, 3) := by decide +kernel
theorem dX8_addProp_17 : decode cX8_addProp 17 = .ok (.bipush (-4), 2) := by decide +kernel
theorem dX8_addProp_19 : decode cX8_addProp 19 = .ok (.ireturn, 1) := by decide +kernel
theorem dX8_addProp_20 : decode cX8_addProp 20 = .ok (.aload_n 0, 1) := by decide +kernel
theorem dX8_addProp_21 : decode cX8_addProp 21 = .ok (.getfield 7, 3) := by decide +kernel
theorem dX8_addProp_24 : decode cX8_addProp 24 = .ok (.iconst 1, 1) := by decide +kernel
theorem dX8_addProp_25 : decode cX8_addProp 25 = .ok (.iaload, 1) := by decide +kernel
theorem dX8_addProp_26 : decode cX8_addProp 26 = .ok (.istore_n 2, 1) := by decide +kernel
theorem dX8_addProp_27 : decode cX8_addProp 27 = .ok (.iload_n 2, 1) := by decide +kernel
theorem dX8_addProp_28 : decode cX8_addProp 28 = .ok (.bipush 24, 2) := by decide +kernel
theorem dX8_addProp_30 : decode cX8_addProp 30 = .ok (.if_icmp .ne 6, 3) := by decide +kernel
theorem dX8_addProp_33 : decode cX8_addProp 33 = .ok (.bipush (-3), 2) := by decide +kernel
theorem dX8_addProp_35 : decode cX8_addProp 35 = .ok (.ireturn, 1) := by decide +kernel
theorem dX8_addProp_36 : decode cX8_addProp 36 = .ok (.aload_n 0, 1) := by decide +kernel
theorem dX8_addProp_37 : decode cX8_addProp 37 = .ok (.getfield 7, 3) := by decide +kernel
theorem dX8_addProp_40 : decode cX8_addProp 40 = .ok (.bipush 80, 2) := by decide +kernel
theorem dX8_addProp_42 : decode cX8_addProp 42 = .ok (.iload_n 2, 1) := by decide +kernel
theorem dX8_addProp_43 : decode cX8_addProp 43 = .ok (.iadd, 1) := by decide +kernel
theorem dX8_addProp_44 : decode cX8_addProp 44 = .ok (.iload_n 1, 1) := by decide +kernel
theorem dX8_addProp_45 : decode cX8_addProp 45 = .ok (.iastore, 1) := by decide +kernel
theorem dX8_addProp_46 : decode cX8_addProp 46 = .ok (.aload_n 0, 1) := by decide +kernel
theorem dX8_addProp_47 : decode cX8_addProp 47 = .ok (.getfield 7, 3) := by decide +kernel
theorem dX8_addProp_50 : decode cX8_addProp 50 = .ok (.bipush 104, 2) := by decide +kernel
theorem dX8_addProp_52 : decode cX8_addProp 52 = .ok (.iload_n 2, 1) := by decide +kernel
theorem dX8_addProp_53 : decode cX8_addProp 53 = .ok (.iadd, 1) := by decide +kernel
theorem dX8_addProp_54 : decode cX8_addProp 54 = .ok (.iload_n 1, 1) := by decide +kernel
theorem dX8_addProp_55 : decode cX8_addProp 55 = .ok (.iastore, 1) := by decide +kernel
theorem dX8_addProp_56 : decode cX8_addProp 56 = .ok (.aload_n 0, 1) := by decide +kernel
theorem dX8_addProp_57 : decode cX8_addProp 57 = .ok (.getfield 7, 3) := by decide +kernel
theorem dX8_addProp_60 : decode cX8_addProp 60 = .ok (.iconst 1, 1) := by decide +kernel
theorem dX8_addProp_61 : decode cX8_addProp 61 = .ok (.dup2, 1) := by decide +kernel
theorem dX8_addProp_62 : decode cX8_addProp 62 = .ok (.iaload, 1) := by decide +kernel
theorem dX8_addProp_63 : decode cX8_addProp 63 = .ok (.iconst 1, 1) := by decide +kernel
theorem dX8_addProp_64 : decode cX8_addProp 64 = .ok (.iadd, 1) := by decide +kernel
theorem dX8_addProp_65 : decode cX8_addProp 65 = .ok (.iastore, 1) := by decide +kernel
theorem dX8_addProp_66 : decode cX8_addProp 66 = .ok (.iload_n 2, 1) := by decide +kernel
theorem dX8_addProp_67 : decode cX8_addProp 67 = .ok (.ireturn, 1) := by decide +kernel
theorem dX8_addClue_0 : decode cX8_addClue 0 = .ok (.aload_n 0, 1) := by decide +kernel
theorem dX8_addClue_1 : decode cX8_addClue 1 = .ok (.iload_n 1, 1) := by decide +kernel
theorem dX8_addClue_2 : decode cX8_addClue 2 = .ok (.invokevirtual 102, 3) := by decide +kernel
theorem dX8_addClue_5 : decode cX8_addClue 5 = .ok (.ifCond .ne 11, 3) := by decide +kernel
theorem dX8_addClue_8 : decode cX8_addClue 8 = .ok (.aload_n 0, 1) := by decide +kernel
theorem dX8_addClue_9 : decode cX8_addClue 9 = .ok (.iload_n 2, 1) := by decide +kernel
theorem dX8_addClue_10 : decode cX8_addClue 10 = .ok (.invokevirtual 99, 3) := by decide +kernel
theorem dX8_addClue_13 : decode cX8_addClue 13 = .ok (.ifCond .eq 5, 3) := by decide +kernel
theorem dX8_addClue_16 : decode cX8_addClue 16 = .ok (.iconst (-1), 1) := by decide +kernel
theorem dX8_addClue_17 : decode cX8_addClue 17 = .ok (.ireturn, 1) := by decide +kernel
theorem dX8_addClue_18 : decode cX8_addClue 18 = .ok (.iload_n 3, 1) := by decide +kernel
theorem dX8_addClue_19 : decode cX8_addClue 19 = .ok (.iconst 0, 1) := by decide +kernel
theorem dX8_addClue_20 : decode cX8_addClue 20 = .ok (.iconst 3, 1) := by decide +kernel
theorem dX8_addClue_21 : decode cX8_addClue 21 = .ok (.invokestatic 30, 3) := by decide +kernel
theorem dX8_addClue_24 : decode cX8_addClue 24 = .ok (.ifCond .ne 6, 3) := by decide +kernel
theorem dX8_addClue_27 : decode cX8_addClue 27 = .ok (.bipush (-2), 2) := by decide +kernel
theorem dX8_addClue_29 : decode cX8_addClue 29 = .ok (.ireturn, 1) := by decide +kernel
theorem dX8_addClue_30 : decode cX8_addClue 30 = .ok (.iload_n 2, 1) := by decide +kernel
theorem dX8_addClue_31 : decode cX8_addClue 31 = .ok (.ifCond .eq 23, 3) := by decide +kernel
theorem dX8_addClue_34 : decode cX8_addClue 34 = .ok (.aload_n 0, 1) := by decide +kernel
theorem dX8_addClue_35 : decode cX8_addClue 35 = .ok (.getfield 7, 3) := by decide +kernel
theorem dX8_addClue_38 : decode cX8_addClue 38 = .ok (.bipush 32, 2) := by decide +kernel
theorem dX8_addClue_40 : decode cX8_addClue 40 = .ok (.iload_n 2, 1) := by decide +kernel
theorem dX8_addClue_41 : decode cX8_addClue 41 = .ok (.iadd, 1) := by decide +kernel
theorem dX8_addClue_42 : decode cX8_addClue 42 = .ok (.iaload, 1) := by decide +kernel
theorem dX8_addClue_43 : decode cX8_addClue 43 = .ok (.iconst 2, 1) := by decide +kernel
theorem dX8_addClue_44 : decode cX8_addClue 44 = .ok (.if_icmp .ne 10, 3) := by decide +kernel
theorem dX8_addClue_47 : decode cX8_addClue 47 = .ok (.aload_n 0, 1) := by decide +kernel
theorem dX8_addClue_48 : decode cX8_addClue 48 = .ok (.invokevirtual 105, 3) := by decide +kernel
theorem dX8_addClue_51 : decode cX8_addClue 51 = .ok (.ifCond .eq 6, 3) := by decide +kernel
theorem dX8_addClue_54 : decode cX8_addClue 54 = .ok (.bipush (-4), 2) := by decide +kernel
theorem dX8_addClue_56 : decode cX8_addClue 56 = .ok (.ireturn, 1) := by decide +kernel
theorem dX8_addClue_57 : decode cX8_addClue 57 = .ok (.aload_n 0, 1) := by decide +kernel
theorem dX8_addClue_58 : decode cX8_addClue 58 = .ok (.getfield 7, 3) := by decide +kernel
theorem dX8_addClue_61 : decode cX8_addClue 61 = .ok (.iconst 2, 1) := by decide +kernel
theorem dX8_addClue_62 : decode cX8_addClue 62 = .ok (.iaload, 1) := by decide +kernel
theorem dX8_addClue_63 : decode cX8_addClue 63 = .ok (.istore 4, 2) := by decide +kernel
theorem dX8_addClue_65 : decode cX8_addClue 65 = .ok (.iload 4, 2) := by decide +kernel
theorem dX8_addClue_67 : decode cX8_addClue 67 = .ok (.bipush 12, 2) := by decide +kernel
theorem dX8_addClue_69 : decode cX8_addClue 69 = .ok (.if_icmp .ne 6, 3) := by decide +kernel
theorem dX8_addClue_72 : decode cX8_addClue 72 = .ok (.bipush (-3), 2) := by decide +kernel
theorem dX8_addClue_74 : decode cX8_addClue 74 = .ok (.ireturn, 1) := by decide +kernel
theorem dX8_addClue_75 : decode cX8_addClue 75 = .ok (.aload_n 0, 1) := by decide +kernel
theorem dX8_addClue_76 : decode cX8_addClue 76 = .ok (.getfield 7, 3) := by decide +kernel
theorem dX8_addClue_79 : decode cX8_addClue 79 = .ok (.sipush 128, 3) := by decide +kernel
theorem dX8_addClue_82 : decode cX8_addClue 82 = .ok (.iload 4, 2) := by decide +kernel
theorem dX8_addClue_84 : decode cX8_addClue 84 = .ok (.iadd, 1) := by decide +kernel
theorem dX8_addClue_85 : decode cX8_addClue 85 = .ok (.iload_n 1, 1) := by decide +kernel
theorem dX8_addClue_86 : decode cX8_addClue 86 = .ok (.iastore, 1) := by decide +kernel
theorem dX8_addClue_87 : decode cX8_addClue 87 = .ok (.aload_n 0, 1) := by decide +kernel
theorem dX8_addClue_88 : decode cX8_addClue 88 = .ok (.getfield 7, 3) := by decide +kernel
theorem dX8_addClue_91 : decode cX8_addClue 91 = .ok (.sipush 140, 3) := by decide +kernel
theorem dX8_addClue_94 : decode cX8_addClue 94 = .ok (.iload 4, 2) := by decide +kernel
theorem dX8_addClue_96 : decode cX8_addClue 96 = .ok (.iadd, 1) := by decide +kernel
theorem dX8_addClue_97 : decode cX8_addClue 97 = .ok (.iload_n 2, 1) := by decide +kernel
theorem dX8_addClue_98 : decode cX8_addClue 98 = .ok (.iastore, 1) := by decide +kernel
theorem dX8_addClue_99 : decode cX8_addClue 99 = .ok (.aload_n 0, 1) := by decide +kernel
theorem dX8_addClue_100 : decode cX8_addClue 100 = .ok (.getfield 7, 3) := by decide +kernel
theorem dX8_addClue_103 : decode cX8_addClue 103 = .ok (.sipush 152, 3) := by decide +kernel
theorem dX8_addClue_106 : decode cX8_addClue 106 = .ok (.iload 4, 2) := by decide +kernel
theorem dX8_addClue_108 : decode cX8_addClue 108 = .ok (.iadd, 1) := by decide +kernel
theorem dX8_addClue_109 : decode cX8_addClue 109 = .ok (.iload_n 3, 1) := by decide +kernel
theorem dX8_addClue_110 : decode cX8_addClue 110 = .ok (.iastore, 1) := by decide +kernel
theorem dX8_addClue_111 : decode cX8_addClue 111 = .ok (.aload_n 0, 1) := by decide +kernel
theorem dX8_addClue_112 : decode cX8_addClue 112 = .ok (.getfield 7, 3) := by decide +kernel
theorem dX8_addClue_115 : decode cX8_addClue 115 = .ok (.sipush 164, 3) := by decide +kernel
theorem dX8_addClue_118 : decode cX8_addClue 118 = .ok (.iload 4, 2) := by decide +kernel
theorem dX8_addClue_120 : decode cX8_addClue 120 = .ok (.iadd, 1) := by decide +kernel
theorem dX8_addClue_121 : decode cX8_addClue 121 = .ok (.bipush 9, 2) := by decide +kernel
theorem dX8_addClue_123 : decode cX8_addClue 123 = .ok (.iastore, 1) := by decide +kernel
theorem dX8_addClue_124 : decode cX8_addClue 124 = .ok (.aload_n 0, 1) := by decide +kernel
theorem dX8_addClue_125 : decode cX8_addClue 125 = .ok (.getfield 7, 3) := by decide +kernel
theorem dX8_addClue_128 : decode cX8_addClue 128 = .ok (.iconst 2, 1) := by decide +kernel
theorem dX8_addClue_129 : decode cX8_addClue 129 = .ok (.dup2, 1) := by decide +kernel
theorem dX8_addClue_130 : decode cX8_addClue 130 = .ok (.iaload, 1) := by decide +kernel
theorem dX8_addClue_131 : decode cX8_addClue 131 = .ok (.iconst 1, 1) := by decide +kernel
theorem dX8_addClue_132 : decode cX8_addClue 132 = .ok (.iadd, 1) := by decide +kernel
theorem dX8_addClue_133 : decode cX8_addClue 133 = .ok (.iastore, 1) := by decide +kernel
theorem dX8_addClue_134 : decode cX8_addClue 134 = .ok (.iload 4, 2) := by decide +kernel
theorem dX8_addClue_136 : decode cX8_addClue 136 = .ok (.ireturn, 1) := by decide +kernel
theorem dX8_setExit_0 : decode cX8_setExit 0 = .ok (.aload_n 0, 1) := by decide +kernel
theorem dX8_setExit_1 : decode cX8_setExit 1 = .ok (.iload_n 1, 1) := by decide +kernel
theorem dX8_setExit_2 : decode cX8_setExit 2 = .ok (.invokevirtual 99, 3) := by decide +kernel
theorem dX8_setExit_5 : decode cX8_setExit 5 = .ok (.ifCond .eq 5, 3) := by decide +kernel
theorem dX8_setExit_8 : decode cX8_setExit 8 = .ok (.iconst (-1), 1) := by decide +kernel
theorem dX8_setExit_9 : decode cX8_setExit 9 = .ok (.ireturn, 1) := by decide +kernel
theorem dX8_setExit_10 : decode cX8_setExit 10 = .ok (.iload_n 1, 1) := by decide +kernel
theorem dX8_setExit_11 : decode cX8_setExit 11 = .ok (.ifCond .ne 6, 3) := by decide +kernel
theorem dX8_setExit_14 : decode cX8_setExit 14 = .ok (.bipush (-2), 2) := by decide +kernel
theorem dX8_setExit_16 : decode cX8_setExit 16 = .ok (.ireturn, 1) := by decide +kernel
theorem dX8_setExit_17 : decode cX8_setExit 17 = .ok (.aload_n 0, 1) := by decide +kernel
theorem dX8_setExit_18 : decode cX8_setExit 18 = .ok (.invokevirtual 105, 3) := by decide +kernel
theorem dX8_setExit_21 : decode cX8_setExit 21 = .ok (.ifCond .eq 6, 3) := by decide +kernel
theorem dX8_setExit_24 : decode cX8_setExit 24 = .ok (.bipush (-4), 2) := by decide +kernel
theorem dX8_setExit_26 : decode cX8_setExit 26 = .ok (.ireturn, 1) := by decide +kernel
theorem dX8_setExit_27 : decode cX8_setExit 27 = .ok (.aload_n 0, 1) := by decide +kernel
theorem dX8_setExit_28 : decode cX8_setExit 28 = .ok (.getfield 7, 3) := by decide +kernel
theorem dX8_setExit_31 : decode cX8_setExit 31 = .ok (.iconst 5, 1) := by decide +kernel
theorem dX8_setExit_32 : decode cX8_setExit 32 = .ok (.iaload, 1) := by decide +kernel
theorem dX8_setExit_33 : decode cX8_setExit 33 = .ok (.istore_n 2, 1) := by decide +kernel
theorem dX8_setExit_34 : decode cX8_setExit 34 = .ok (.aload_n 0, 1) := by decide +kernel
theorem dX8_setExit_35 : decode cX8_setExit 35 = .ok (.getfield 7, 3) := by decide +kernel
theorem dX8_setExit_38 : decode cX8_setExit 38 = .ok (.iconst 5, 1) := by decide +kernel
theorem dX8_setExit_39 : decode cX8_setExit 39 = .ok (.iload_n 1, 1) := by decide +kernel
theorem dX8_setExit_40 : decode cX8_setExit 40 = .ok (.iastore, 1) := by decide +kernel
theorem dX8_setExit_41 : decode cX8_setExit 41 = .ok (.iload_n 2, 1) := by decide +kernel
theorem dX8_setExit_42 : decode cX8_setExit 42 = .ok (.iload_n 1, 1) := by decide +kernel
theorem dX8_setExit_43 : decode cX8_setExit 43 = .ok (.if_icmp .ne 8, 3) := by decide +kernel
theorem dX8_setExit_46 : decode cX8_setExit 46 = .ok (.bipush (-5), 2) := by decide +kernel
theorem dX8_setExit_48 : decode cX8_setExit 48 = .ok (.goto 4, 3) := by decide +kernel
theorem dX8_setExit_51 : decode cX8_setExit 51 = .ok (.iload_n 2, 1) := by decide +kernel
theorem dX8_setExit_52 : decode cX8_setExit 52 = .ok (.ireturn, 1) := by decide +kernel
theorem dX8_setLimits_0 : decode cX8_setLimits 0 = .ok (.iload_n 1, 1) := by decide +kernel
theorem dX8_setLimits_1 : decode cX8_setLimits 1 = .ok (.bipush 10, 2) := by decide +kernel
theorem dX8_setLimits_3 : decode cX8_setLimits 3 = .ok (.bipush 120, 2) := by decide +kernel
end
section
theorem dX8_setLimits_5 : decode cX8_setLimits 5 = .ok (.invokestatic 30, 3) := by decide +kernel
theorem dX8_setLimits_8 : decode cX8_setLimits 8 = .ok (.ifCond .eq 13, 3) := by decide +kernel
theorem dX8_setLimits_11 : decode cX8_setLimits 11 = .ok (.iload_n 2, 1) := by decide +kernel
theorem dX8_setLimits_12 : decode cX8_setLimits 12 = .ok (.iconst 0, 1) := by decide +kernel
theorem dX8_setLimits_13 : decode cX8_setLimits 13 = .ok (.bipush 9, 2) := by decide +kernel
theorem dX8_setLimits_15 : decode cX8_setLimits 15 = .ok (.invokestatic 30, 3) := by decide +kernel
theorem dX8_setLimits_18 : decode cX8_setLimits 18 = .ok (.ifCond .ne 6, 3) := by decide +kernel
theorem dX8_setLimits_21 : decode cX8_setLimits 21 = .ok (.bipush (-2), 2) := by decide +kernel
theorem dX8_setLimits_23 : decode cX8_setLimits 23 = .ok (.ireturn, 1) := by decide +kernel
theorem dX8_setLimits_24 : decode cX8_setLimits 24 = .ok (.aload_n 0, 1) := by decide +kernel
theorem dX8_setLimits_25 : decode cX8_setLimits 25 = .ok (.invokevirtual 105, 3) := by decide +kernel
theorem dX8_setLimits_28 : decode cX8_setLimits 28 = .ok (.ifCond .eq 6, 3) := by decide +kernel
theorem dX8_setLimits_31 : decode cX8_setLimits 31 = .ok (.bipush (-4), 2) := by decide +kernel
theorem dX8_setLimits_33 : decode cX8_setLimits 33 = .ok (.ireturn, 1) := by decide +kernel
theorem dX8_setLimits_34 : decode cX8_setLimits 34 = .ok (.aload_n 0, 1) := by decide +kernel
theorem dX8_setLimits_35 : decode cX8_setLimits 35 = .ok (.getfield 7, 3) := by decide +kernel
theorem dX8_setLimits_38 : decode cX8_setLimits 38 = .ok (.bipush 6, 2) := by decide +kernel
theorem dX8_setLimits_40 : decode cX8_setLimits 40 = .ok (.iaload, 1) := by decide +kernel
theorem dX8_setLimits_41 : decode cX8_setLimits 41 = .ok (.istore_n 3, 1) := by decide +kernel
theorem dX8_setLimits_42 : decode cX8_setLimits 42 = .ok (.iload_n 3, 1) := by decide +kernel
theorem dX8_setLimits_43 : decode cX8_setLimits 43 = .ok (.iload_n 1, 1) := by decide +kernel
theorem dX8_setLimits_44 : decode cX8_setLimits 44 = .ok (.if_icmp .ne 18, 3) := by decide +kernel
theorem dX8_setLimits_47 : decode cX8_setLimits 47 = .ok (.aload_n 0, 1) := by decide +kernel
theorem dX8_setLimits_48 : decode cX8_setLimits 48 = .ok (.getfield 7, 3) := by decide +kernel
theorem dX8_setLimits_51 : decode cX8_setLimits 51 = .ok (.bipush 7, 2) := by decide +kernel
theorem dX8_setLimits_53 : decode cX8_setLimits 53 = .ok (.iaload, 1) := by decide +kernel
theorem dX8_setLimits_54 : decode cX8_setLimits 54 = .ok (.iload_n 2, 1) := by decide +kernel
theorem dX8_setLimits_55 : decode cX8_setLimits 55 = .ok (.if_icmp .ne 7, 3) := by decide +kernel
theorem dX8_setLimits_58 : decode cX8_setLimits 58 = .ok (.iconst 1, 1) := by decide +kernel
theorem dX8_setLimits_59 : decode cX8_setLimits 59 = .ok (.goto 4, 3) := by decide +kernel
theorem dX8_setLimits_62 : decode cX8_setLimits 62 = .ok (.iconst 0, 1) := by decide +kernel
theorem dX8_setLimits_63 : decode cX8_setLimits 63 = .ok (.istore 4, 2) := by decide +kernel
theorem dX8_setLimits_65 : decode cX8_setLimits 65 = .ok (.aload_n 0, 1) := by decide +kernel
theorem dX8_setLimits_66 : decode cX8_setLimits 66 = .ok (.getfield 7, 3) := by decide +kernel
theorem dX8_setLimits_69 : decode cX8_setLimits 69 = .ok (.bipush 6, 2) := by decide +kernel
theorem dX8_setLimits_71 : decode cX8_setLimits 71 = .ok (.iload_n 1, 1) := by decide +kernel
theorem dX8_setLimits_72 : decode cX8_setLimits 72 = .ok (.iastore, 1) := by decide +kernel
theorem dX8_setLimits_73 : decode cX8_setLimits 73 = .ok (.aload_n 0, 1) := by decide +kernel
theorem dX8_setLimits_74 : decode cX8_setLimits 74 = .ok (.getfield 7, 3) := by decide +kernel
theorem dX8_setLimits_77 : decode cX8_setLimits 77 = .ok (.bipush 7, 2) := by decide +kernel
theorem dX8_setLimits_79 : decode cX8_setLimits 79 = .ok (.iload_n 2, 1) := by decide +kernel
theorem dX8_setLimits_80 : decode cX8_setLimits 80 = .ok (.iastore, 1) := by decide +kernel
theorem dX8_setLimits_81 : decode cX8_setLimits 81 = .ok (.iload 4, 2) := by decide +kernel
theorem dX8_setLimits_83 : decode cX8_setLimits 83 = .ok (.ifCond .eq 8, 3) := by decide +kernel
theorem dX8_setLimits_86 : decode cX8_setLimits 86 = .ok (.bipush (-5), 2) := by decide +kernel
theorem dX8_setLimits_88 : decode cX8_setLimits 88 = .ok (.goto 4, 3) := by decide +kernel
theorem dX8_setLimits_91 : decode cX8_setLimits 91 = .ok (.iload_n 3, 1) := by decide +kernel
theorem dX8_setLimits_92 : decode cX8_setLimits 92 = .ok (.ireturn, 1) := by decide +kernel
theorem dX8_addPaint_0 : decode cX8_addPaint 0 = .ok (.iload_n 1, 1) := by decide +kernel
theorem dX8_addPaint_1 : decode cX8_addPaint 1 = .ok (.iconst 1, 1) := by decide +kernel
theorem dX8_addPaint_2 : decode cX8_addPaint 2 = .ok (.sipush 1000, 3) := by decide +kernel
theorem dX8_addPaint_5 : decode cX8_addPaint 5 = .ok (.invokestatic 30, 3) := by decide +kernel
theorem dX8_addPaint_8 : decode cX8_addPaint 8 = .ok (.ifCond .ne 6, 3) := by decide +kernel
theorem dX8_addPaint_11 : decode cX8_addPaint 11 = .ok (.bipush (-2), 2) := by decide +kernel
theorem dX8_addPaint_13 : decode cX8_addPaint 13 = .ok (.ireturn, 1) := by decide +kernel
theorem dX8_addPaint_14 : decode cX8_addPaint 14 = .ok (.aload_n 0, 1) := by decide +kernel
theorem dX8_addPaint_15 : decode cX8_addPaint 15 = .ok (.getfield 7, 3) := by decide +kernel
theorem dX8_addPaint_18 : decode cX8_addPaint 18 = .ok (.bipush 8, 2) := by decide +kernel
theorem dX8_addPaint_20 : decode cX8_addPaint 20 = .ok (.dup2, 1) := by decide +kernel
theorem dX8_addPaint_21 : decode cX8_addPaint 21 = .ok (.iaload, 1) := by decide +kernel
theorem dX8_addPaint_22 : decode cX8_addPaint 22 = .ok (.iload_n 1, 1) := by decide +kernel
theorem dX8_addPaint_23 : decode cX8_addPaint 23 = .ok (.iadd, 1) := by decide +kernel
theorem dX8_addPaint_24 : decode cX8_addPaint 24 = .ok (.iastore, 1) := by decide +kernel
theorem dX8_addPaint_25 : decode cX8_addPaint 25 = .ok (.aload_n 0, 1) := by decide +kernel
theorem dX8_addPaint_26 : decode cX8_addPaint 26 = .ok (.getfield 7, 3) := by decide +kernel
theorem dX8_addPaint_29 : decode cX8_addPaint 29 = .ok (.bipush 8, 2) := by decide +kernel
theorem dX8_addPaint_31 : decode cX8_addPaint 31 = .ok (.iaload, 1) := by decide +kernel
theorem dX8_addPaint_32 : decode cX8_addPaint 32 = .ok (.ireturn, 1) := by decide +kernel
theorem dX8_book_0 : decode cX8_book 0 = .ok (.iload_n 1, 1) := by decide +kernel
theorem dX8_book_1 : decode cX8_book 1 = .ok (.iconst 1, 1) := by decide +kernel
theorem dX8_book_2 : decode cX8_book 2 = .ok (.bipush 6, 2) := by decide +kernel
theorem dX8_book_4 : decode cX8_book 4 = .ok (.invokestatic 30, 3) := by decide +kernel
theorem dX8_book_7 : decode cX8_book 7 = .ok (.ifCond .eq 13, 3) := by decide +kernel
theorem dX8_book_10 : decode cX8_book 10 = .ok (.iload_n 2, 1) := by decide +kernel
theorem dX8_book_11 : decode cX8_book 11 = .ok (.iconst 0, 1) := by decide +kernel
theorem dX8_book_12 : decode cX8_book 12 = .ok (.ldc 108, 2) := by decide +kernel
theorem dX8_book_14 : decode cX8_book 14 = .ok (.invokestatic 30, 3) := by decide +kernel
theorem dX8_book_17 : decode cX8_book 17 = .ok (.ifCond .ne 6, 3) := by decide +kernel
theorem dX8_book_20 : decode cX8_book 20 = .ok (.bipush (-2), 2) := by decide +kernel
theorem dX8_book_22 : decode cX8_book 22 = .ok (.ireturn, 1) := by decide +kernel
theorem dX8_book_23 : decode cX8_book 23 = .ok (.aload_n 0, 1) := by decide +kernel
theorem dX8_book_24 : decode cX8_book 24 = .ok (.getfield 7, 3) := by decide +kernel
theorem dX8_book_27 : decode cX8_book 27 = .ok (.iconst 3, 1) := by decide +kernel
theorem dX8_book_28 : decode cX8_book 28 = .ok (.iaload, 1) := by decide +kernel
theorem dX8_book_29 : decode cX8_book 29 = .ok (.istore_n 3, 1) := by decide +kernel
theorem dX8_book_30 : decode cX8_book 30 = .ok (.iload_n 3, 1) := by decide +kernel
theorem dX8_book_31 : decode cX8_book 31 = .ok (.ifCond .le 22, 3) := by decide +kernel
theorem dX8_book_34 : decode cX8_book 34 = .ok (.aload_n 0, 1) := by decide +kernel
theorem dX8_book_35 : decode cX8_book 35 = .ok (.getfield 7, 3) := by decide +kernel
theorem dX8_book_38 : decode cX8_book 38 = .ok (.sipush 184, 3) := by decide +kernel
theorem dX8_book_41 : decode cX8_book 41 = .ok (.iload_n 3, 1) := by decide +kernel
theorem dX8_book_42 : decode cX8_book 42 = .ok (.iadd, 1) := by decide +kernel
theorem dX8_book_43 : decode cX8_book 43 = .ok (.iconst 1, 1) := by decide +kernel
theorem dX8_book_44 : decode cX8_book 44 = .ok (.isub, 1) := by decide +kernel
theorem dX8_book_45 : decode cX8_book 45 = .ok (.iaload, 1) := by decide +kernel
theorem dX8_book_46 : decode cX8_book 46 = .ok (.iload_n 2, 1) := by decide +kernel
theorem dX8_book_47 : decode cX8_book 47 = .ok (.if_icmp .le 6, 3) := by decide +kernel
theorem dX8_book_50 : decode cX8_book 50 = .ok (.bipush (-4), 2) := by decide +kernel
theorem dX8_book_52 : decode cX8_book 52 = .ok (.ireturn, 1) := by decide +kernel
theorem dX8_book_53 : decode cX8_book 53 = .ok (.iload_n 3, 1) := by decide +kernel
theorem dX8_book_54 : decode cX8_book 54 = .ok (.bipush 8, 2) := by decide +kernel
theorem dX8_book_56 : decode cX8_book 56 = .ok (.if_icmp .ne 6, 3) := by decide +kernel
theorem dX8_book_59 : decode cX8_book 59 = .ok (.bipush (-3), 2) := by decide +kernel
theorem dX8_book_61 : decode cX8_book 61 = .ok (.ireturn, 1) := by decide +kernel
theorem dX8_book_62 : decode cX8_book 62 = .ok (.aload_n 0, 1) := by decide +kernel
theorem dX8_book_63 : decode cX8_book 63 = .ok (.getfield 7, 3) := by decide +kernel
theorem dX8_book_66 : decode cX8_book 66 = .ok (.sipush 176, 3) := by decide +kernel
theorem dX8_book_69 : decode cX8_book 69 = .ok (.iload_n 3, 1) := by decide +kernel
theorem dX8_book_70 : decode cX8_book 70 = .ok (.iadd, 1) := by decide +kernel
theorem dX8_book_71 : decode cX8_book 71 = .ok (.iload_n 1, 1) := by decide +kernel
theorem dX8_book_72 : decode cX8_book 72 = .ok (.iastore, 1) := by decide +kernel
theorem dX8_book_73 : decode cX8_book 73 = .ok (.aload_n 0, 1) := by decide +kernel
theorem dX8_book_74 : decode cX8_book 74 = .ok (.getfield 7, 3) := by decide +kernel
theorem dX8_book_77 : decode cX8_book 77 = .ok (.sipush 184, 3) := by decide +kernel
theorem dX8_book_80 : decode cX8_book 80 = .ok (.iload_n 3, 1) := by decide +kernel
theorem dX8_book_81 : decode cX8_book 81 = .ok (.iadd, 1) := by decide +kernel
theorem dX8_book_82 : decode cX8_book 82 = .ok (.iload_n 2, 1) := by decide +kernel
theorem dX8_book_83 : decode cX8_book 83 = .ok (.iastore, 1) := by decide +kernel
theorem dX8_book_84 : decode cX8_book 84 = .ok (.aload_n 0, 1) := by decide +kernel
theorem dX8_book_85 : decode cX8_book 85 = .ok (.getfield 7, 3) := by decide +kernel
theorem dX8_book_88 : decode cX8_book 88 = .ok (.iconst 3, 1) := by decide +kernel
theorem dX8_book_89 : decode cX8_book 89 = .ok (.dup2, 1) := by decide +kernel
theorem dX8_book_90 : decode cX8_book 90 = .ok (.iaload, 1) := by decide +kernel
theorem dX8_book_91 : decode cX8_book 91 = .ok (.iconst 1, 1) := by decide +kernel
theorem dX8_book_92 : decode cX8_book 92 = .ok (.iadd, 1) := by decide +kernel
theorem dX8_book_93 : decode cX8_book 93 = .ok (.iastore, 1) := by decide +kernel
theorem dX8_book_94 : decode cX8_book 94 = .ok (.iload_n 3, 1) := by decide +kernel
theorem dX8_book_95 : decode cX8_book 95 = .ok (.iconst 1, 1) := by decide +kernel
theorem dX8_book_96 : decode cX8_book 96 = .ok (.iadd, 1) := by decide +kernel
theorem dX8_book_97 : decode cX8_book 97 = .ok (.ireturn, 1) := by decide +kernel
theorem dX8_noGroup_0 : decode cX8_noGroup 0 = .ok (.iload_n 1, 1) := by decide +kernel
theorem dX8_noGroup_1 : decode cX8_noGroup 1 = .ok (.iconst 0, 1) := by decide +kernel
theorem dX8_noGroup_2 : decode cX8_noGroup 2 = .ok (.aload_n 0, 1) := by decide +kernel
theorem dX8_noGroup_3 : decode cX8_noGroup 3 = .ok (.getfield 7, 3) := by decide +kernel
theorem dX8_noGroup_6 : decode cX8_noGroup 6 = .ok (.iconst 3, 1) := by decide +kernel
theorem dX8_noGroup_7 : decode cX8_noGroup 7 = .ok (.iaload, 1) := by decide +kernel
theorem dX8_noGroup_8 : decode cX8_noGroup 8 = .ok (.iconst 1, 1) := by decide +kernel
theorem dX8_noGroup_9 : decode cX8_noGroup 9 = .ok (.isub, 1) := by decide +kernel
theorem dX8_noGroup_10 : decode cX8_noGroup 10 = .ok (.invokestatic 30, 3) := by decide +kernel
theorem dX8_noGroup_13 : decode cX8_noGroup 13 = .ok (.ifCond .ne 7, 3) := by decide +kernel
theorem dX8_noGroup_16 : decode cX8_noGroup 16 = .ok (.iconst 1, 1) := by decide +kernel
theorem dX8_noGroup_17 : decode cX8_noGroup 17 = .ok (.goto 4, 3) := by decide +kernel
theorem dX8_noGroup_20 : decode cX8_noGroup 20 = .ok (.iconst 0, 1) := by decide +kernel
theorem dX8_noGroup_21 : decode cX8_noGroup 21 = .ok (.ireturn, 1) := by decide +kernel
theorem dX8_removeGroup_0 : decode cX8_removeGroup 0 = .ok (.aload_n 0, 1) := by decide +kernel
theorem dX8_removeGroup_1 : decode cX8_removeGroup 1 = .ok (.getfield 7, 3) := by decide +kernel
theorem dX8_removeGroup_4 : decode cX8_removeGroup 4 = .ok (.iconst 3, 1) := by decide +kernel
theorem dX8_removeGroup_5 : decode cX8_removeGroup 5 = .ok (.dup2, 1) := by decide +kernel
theorem dX8_removeGroup_6 : decode cX8_removeGroup 6 = .ok (.iaload, 1) := by decide +kernel
theorem dX8_removeGroup_7 : decode cX8_removeGroup 7 = .ok (.iconst 1, 1) := by decide +kernel
theorem dX8_removeGroup_8 : decode cX8_removeGroup 8 = .ok (.isub, 1) := by decide +kernel
theorem dX8_removeGroup_9 : decode cX8_removeGroup 9 = .ok (.iastore, 1) := by decide +kernel
theorem dX8_removeGroup_10 : decode cX8_removeGroup 10 = .ok (.iload_n 1, 1) := by decide +kernel
theorem dX8_removeGroup_11 : decode cX8_removeGroup 11 = .ok (.istore_n 2, 1) := by decide +kernel
theorem dX8_removeGroup_12 : decode cX8_removeGroup 12 = .ok (.iload_n 2, 1) := by decide +kernel
theorem dX8_removeGroup_13 : decode cX8_removeGroup 13 = .ok (.aload_n 0, 1) := by decide +kernel
theorem dX8_removeGroup_14 : decode cX8_removeGroup 14 = .ok (.getfield 7, 3) := by decide +kernel
theorem dX8_removeGroup_17 : decode cX8_removeGroup 17 = .ok (.iconst 3, 1) := by decide +kernel
theorem dX8_removeGroup_18 : decode cX8_removeGroup 18 = .ok (.iaload, 1) := by decide +kernel
theorem dX8_removeGroup_19 : decode cX8_removeGroup 19 = .ok (.if_icmp .ge 53, 3) := by decide +kernel
theorem dX8_removeGroup_22 : decode cX8_removeGroup 22 = .ok (.aload_n 0, 1) := by decide +kernel
theorem dX8_removeGroup_23 : decode cX8_removeGroup 23 = .ok (.getfield 7, 3) := by decide +kernel
theorem dX8_removeGroup_26 : decode cX8_removeGroup 26 = .ok (.sipush 176, 3) := by decide +kernel
theorem dX8_removeGroup_29 : decode cX8_removeGroup 29 = .ok (.iload_n 2, 1) := by decide +kernel
theorem dX8_removeGroup_30 : decode cX8_removeGroup 30 = .ok (.iadd, 1) := by decide +kernel
theorem dX8_removeGroup_31 : decode cX8_removeGroup 31 = .ok (.aload_n 0, 1) := by decide +kernel
theorem dX8_removeGroup_32 : decode cX8_removeGroup 32 = .ok (.getfield 7, 3) := by decide +kernel
theorem dX8_removeGroup_35 : decode cX8_removeGroup 35 = .ok (.sipush 176, 3) := by decide +kernel
theorem dX8_removeGroup_38 : decode cX8_removeGroup 38 = .ok (.iload_n 2, 1) := by decide +kernel
theorem dX8_removeGroup_39 : decode cX8_removeGroup 39 = .ok (.iadd, 1) := by decide +kernel
theorem dX8_removeGroup_40 : decode cX8_removeGroup 40 = .ok (.iconst 1, 1) := by decide +kernel
theorem dX8_removeGroup_41 : decode cX8_removeGroup 41 = .ok (.iadd, 1) := by decide +kernel
theorem dX8_removeGroup_42 : decode cX8_removeGroup 42 = .ok (.iaload, 1) := by decide +kernel
theorem dX8_removeGroup_43 : decode cX8_removeGroup 43 = .ok (.iastore, 1) := by decide +kernel
theorem dX8_removeGroup_44 : decode cX8_removeGroup 44 = .ok (.aload_n 0, 1) := by decide +kernel
theorem dX8_removeGroup_45 : decode cX8_removeGroup 45 = .ok (.getfield 7, 3) := by decide +kernel
theorem dX8_removeGroup_48 : decode cX8_removeGroup 48 = .ok (.sipush 184, 3) := by decide +kernel
theorem dX8_removeGroup_51 : decode cX8_removeGroup 51 = .ok (.iload_n 2, 1) := by decide +kernel
theorem dX8_removeGroup_52 : decode cX8_removeGroup 52 = .ok (.iadd, 1) := by decide +kernel
theorem dX8_removeGroup_53 : decode cX8_removeGroup 53 = .ok (.aload_n 0, 1) := by decide +kernel
theorem dX8_removeGroup_54 : decode cX8_removeGroup 54 = .ok (.getfield 7, 3) := by decide +kernel
theorem dX8_removeGroup_57 : decode cX8_removeGroup 57 = .ok (.sipush 184, 3) := by decide +kernel
theorem dX8_removeGroup_60 : decode cX8_removeGroup 60 = .ok (.iload_n 2, 1) := by decide +kernel
theorem dX8_removeGroup_61 : decode cX8_removeGroup 61 = .ok (.iadd, 1) := by decide +kernel
theorem dX8_removeGroup_62 : decode cX8_removeGroup 62 = .ok (.iconst 1, 1) := by decide +kernel
theorem dX8_removeGroup_63 : decode cX8_removeGroup 63 = .ok (.iadd, 1) := by decide +kernel
theorem dX8_removeGroup_64 : decode cX8_removeGroup 64 = .ok (.iaload, 1) := by decide +kernel
theorem dX8_removeGroup_65 : decode cX8_removeGroup 65 = .ok (.iastore, 1) := by decide +kernel
theorem dX8_removeGroup_66 : decode cX8_removeGroup 66 = .ok (.iinc 2 1, 3) := by decide +kernel
theorem dX8_removeGroup_69 : decode cX8_removeGroup 69 = .ok (.goto (-57), 3) := by decide +kernel
theorem dX8_removeGroup_72 : decode cX8_removeGroup 72 = .ok (.return_, 1) := by decide +kernel
theorem dX8_cancel_0 : decode cX8_cancel 0 = .ok (.aload_n 0, 1) := by decide +kernel
theorem dX8_cancel_1 : decode cX8_cancel 1 = .ok (.iload_n 1, 1) := by decide +kernel
theorem dX8_cancel_2 : decode cX8_cancel 2 = .ok (.invokevirtual 109, 3) := by decide +kernel
theorem dX8_cancel_5 : decode cX8_cancel 5 = .ok (.ifCond .eq 5, 3) := by decide +kernel
theorem dX8_cancel_8 : decode cX8_cancel 8 = .ok (.iconst (-1), 1) := by decide +kernel
theorem dX8_cancel_9 : decode cX8_cancel 9 = .ok (.ireturn, 1) := by decide +kernel
theorem dX8_cancel_10 : decode cX8_cancel 10 = .ok (.aload_n 0, 1) := by decide +kernel
theorem dX8_cancel_11 : decode cX8_cancel 11 = .ok (.iload_n 1, 1) := by decide +kernel
theorem dX8_cancel_12 : decode cX8_cancel 12 = .ok (.invokevirtual 112, 3) := by decide +kernel
theorem dX8_cancel_15 : decode cX8_cancel 15 = .ok (.aload_n 0, 1) := by decide +kernel
theorem dX8_cancel_16 : decode cX8_cancel 16 = .ok (.getfield 7, 3) := by decide +kernel
theorem dX8_cancel_19 : decode cX8_cancel 19 = .ok (.iconst 3, 1) := by decide +kernel
theorem dX8_cancel_20 : decode cX8_cancel 20 = .ok (.iaload, 1) := by decide +kernel
theorem dX8_cancel_21 : decode cX8_cancel 21 = .ok (.ireturn, 1) := by decide +kernel
theorem dX8_notAtHome_0 : decode cX8_notAtHome 0 = .ok (.iconst 0, 1) := by decide +kernel
theorem dX8_notAtHome_1 : decode cX8_notAtHome 1 = .ok (.istore_n 1, 1) := by decide +kernel
theorem dX8_notAtHome_2 : decode cX8_notAtHome 2 = .ok (.iconst 0, 1) := by decide +kernel
theorem dX8_notAtHome_3 : decode cX8_notAtHome 3 = .ok (.istore_n 2, 1) := by decide +kernel
theorem dX8_notAtHome_4 : decode cX8_notAtHome 4 = .ok (.iload_n 2, 1) := by decide +kernel
theorem dX8_notAtHome_5 : decode cX8_notAtHome 5 = .ok (.aload_n 0, 1) := by decide +kernel
theorem dX8_notAtHome_6 : decode cX8_notAtHome 6 = .ok (.getfield 7, 3) := by decide +kernel
theorem dX8_notAtHome_9 : decode cX8_notAtHome 9 = .ok (.iconst 1, 1) := by decide +kernel
theorem dX8_notAtHome_10 : decode cX8_notAtHome 10 = .ok (.iaload, 1) := by decide +kernel
theorem dX8_notAtHome_11 : decode cX8_notAtHome 11 = .ok (.if_icmp .ge 38, 3) := by decide +kernel
theorem dX8_notAtHome_14 : decode cX8_notAtHome 14 = .ok (.iload_n 1, 1) := by decide +kernel
theorem dX8_notAtHome_15 : decode cX8_notAtHome 15 = .ok (.aload_n 0, 1) := by decide +kernel
theorem dX8_notAtHome_16 : decode cX8_notAtHome 16 = .ok (.getfield 7, 3) := by decide +kernel
theorem dX8_notAtHome_19 : decode cX8_notAtHome 19 = .ok (.bipush 104, 2) := by decide +kernel
theorem dX8_notAtHome_21 : decode cX8_notAtHome 21 = .ok (.iload_n 2, 1) := by decide +kernel
theorem dX8_notAtHome_22 : decode cX8_notAtHome 22 = .ok (.iadd, 1) := by decide +kernel
theorem dX8_notAtHome_23 : decode cX8_notAtHome 23 = .ok (.iaload, 1) := by decide +kernel
theorem dX8_notAtHome_24 : decode cX8_notAtHome 24 = .ok (.aload_n 0, 1) := by decide +kernel
theorem dX8_notAtHome_25 : decode cX8_notAtHome 25 = .ok (.getfield 7, 3) := by decide +kernel
theorem dX8_notAtHome_28 : decode cX8_notAtHome 28 = .ok (.bipush 80, 2) := by decide +kernel
theorem dX8_notAtHome_30 : decode cX8_notAtHome 30 = .ok (.iload_n 2, 1) := by decide +kernel
theorem dX8_notAtHome_31 : decode cX8_notAtHome 31 = .ok (.iadd, 1) := by decide +kernel
theorem dX8_notAtHome_32 : decode cX8_notAtHome 32 = .ok (.iaload, 1) := by decide +kernel
theorem dX8_notAtHome_33 : decode cX8_notAtHome 33 = .ok (.if_icmp .ne 7, 3) := by decide +kernel
theorem dX8_notAtHome_36 : decode cX8_notAtHome 36 = .ok (.iconst 0, 1) := by decide +kernel
theorem dX8_notAtHome_37 : decode cX8_notAtHome 37 = .ok (.goto 4, 3) := by decide +kernel
theorem dX8_notAtHome_40 : decode cX8_notAtHome 40 = .ok (.iconst 1, 1) := by decide +kernel
theorem dX8_notAtHome_41 : decode cX8_notAtHome 41 = .ok (.iadd, 1) := by decide +kernel
theorem dX8_notAtHome_42 : decode cX8_notAtHome 42 = .ok (.istore_n 1, 1) := by decide +kernel
theorem dX8_notAtHome_43 : decode cX8_notAtHome 43 = .ok (.iinc 2 1, 3) := by decide +kernel
theorem dX8_notAtHome_46 : decode cX8_notAtHome 46 = .ok (.goto (-42), 3) := by decide +kernel
theorem dX8_notAtHome_49 : decode cX8_notAtHome 49 = .ok (.iload_n 1, 1) := by decide +kernel
theorem dX8_notAtHome_50 : decode cX8_notAtHome 50 = .ok (.ireturn, 1) := by decide +kernel
theorem dX8_openOnes_0 : decode cX8_openOnes 0 = .ok (.iconst 0, 1) := by decide +kernel
theorem dX8_openOnes_1 : decode cX8_openOnes 1 = .ok (.istore_n 1, 1) := by decide +kernel
theorem dX8_openOnes_2 : decode cX8_openOnes 2 = .ok (.iconst 1, 1) := by decide +kernel
theorem dX8_openOnes_3 : decode cX8_openOnes 3 = .ok (.istore_n 2, 1) := by decide +kernel
theorem dX8_openOnes_4 : decode cX8_openOnes 4 = .ok (.iload_n 2, 1) := by decide +kernel
theorem dX8_openOnes_5 : decode cX8_openOnes 5 = .ok (.aload_n 0, 1) := by decide +kernel
theorem dX8_openOnes_6 : decode cX8_openOnes 6 = .ok (.getfield 7, 3) := by decide +kernel
theorem dX8_openOnes_9 : decode cX8_openOnes 9 = .ok (.iconst 0, 1) := by decide +kernel
theorem dX8_openOnes_10 : decode cX8_openOnes 10 = .ok (.iaload, 1) := by decide +kernel
theorem dX8_openOnes_11 : decode cX8_openOnes 11 = .ok (.if_icmp .ge 21, 3) := by decide +kernel
theorem dX8_openOnes_14 : decode cX8_openOnes 14 = .ok (.iload_n 1, 1) := by decide +kernel
theorem dX8_openOnes_15 : decode cX8_openOnes 15 = .ok (.aload_n 0, 1) := by decide +kernel
theorem dX8_openOnes_16 : decode cX8_openOnes 16 = .ok (.getfield 7, 3) := by decide +kernel
theorem dX8_openOnes_19 : decode cX8_openOnes 19 = .ok (.bipush 56, 2) := by decide +kernel
theorem dX8_openOnes_21 : decode cX8_openOnes 21 = .ok (.iload_n 2, 1) := by decide +kernel
theorem dX8_openOnes_22 : decode cX8_openOnes 22 = .ok (.iadd, 1) := by decide +kernel
theorem dX8_openOnes_23 : decode cX8_openOnes 23 = .ok (.iaload, 1) := by decide +kernel
theorem dX8_openOnes_24 : decode cX8_openOnes 24 = .ok (.iadd, 1) := by decide +kernel
theorem dX8_openOnes_25 : decode cX8_openOnes 25 = .ok (.istore_n 1, 1) := by decide +kernel
theorem dX8_openOnes_26 : decode cX8_openOnes 26 = .ok (.iinc 2 1, 3) := by decide +kernel
theorem dX8_openOnes_29 : decode cX8_openOnes 29 = .ok (.goto (-25), 3) := by decide +kernel
theorem dX8_openOnes_32 : decode cX8_openOnes 32 = .ok (.iload_n 1, 1) := by decide +kernel
theorem dX8_openOnes_33 : decode cX8_openOnes 33 = .ok (.ireturn, 1) := by decide +kernel
theorem dX8_startGame_0 : decode cX8_startGame 0 = .ok (.aload_n 0, 1) := by decide +kernel
theorem dX8_startGame_1 : decode cX8_startGame 1 = .ok (.invokevirtual 105, 3) := by decide +kernel
theorem dX8_startGame_4 : decode cX8_startGame 4 = .ok (.ifCond .ne 34, 3) := by decide +kernel
theorem dX8_startGame_7 : decode cX8_startGame 7 = .ok (.aload_n 0, 1) := by decide +kernel
theorem dX8_startGame_8 : decode cX8_startGame 8 = .ok (.getfield 7, 3) := by decide +kernel
theorem dX8_startGame_11 : decode cX8_startGame 11 = .ok (.iconst 3, 1) := by decide +kernel
theorem dX8_startGame_12 : decode cX8_startGame 12 = .ok (.iaload, 1) := by decide +kernel
theorem dX8_startGame_13 : decode cX8_startGame 13 = .ok (.ifCond .eq 25, 3) := by decide +kernel
theorem dX8_startGame_16 : decode cX8_startGame 16 = .ok (.aload_n 0, 1) := by decide +kernel
theorem dX8_startGame_17 : decode cX8_startGame 17 = .ok (.getfield 7, 3) := by decide +kernel
theorem dX8_startGame_20 : decode cX8_startGame 20 = .ok (.iconst 5, 1) := by decide +kernel
theorem dX8_startGame_21 : decode cX8_startGame 21 = .ok (.iaload, 1) := by decide +kernel
theorem dX8_startGame_22 : decode cX8_startGame 22 = .ok (.ifCond .eq 16, 3) := by decide +kernel
theorem dX8_startGame_25 : decode cX8_startGame 25 = .ok (.aload_n 0, 1) := by decide +kernel
theorem dX8_startGame_26 : decode cX8_startGame 26 = .ok (.aload_n 0, 1) := by decide +kernel
theorem dX8_startGame_27 : decode cX8_startGame 27 = .ok (.getfield 7, 3) := by decide +kernel
theorem dX8_startGame_30 : decode cX8_startGame 30 = .ok (.iconst 5, 1) := by decide +kernel
theorem dX8_startGame_31 : decode cX8_startGame 31 = .ok (.iaload, 1) := by decide +kernel
theorem dX8_startGame_32 : decode cX8_startGame 32 = .ok (.invokevirtual 34, 3) := by decide +kernel
theorem dX8_startGame_35 : decode cX8_startGame 35 = .ok (.ifCond .eq 6, 3) := by decide +kernel
theorem dX8_startGame_38 : decode cX8_startGame 38 = .ok (.bipush (-4), 2) := by decide +kernel
theorem dX8_startGame_40 : decode cX8_startGame 40 = .ok (.ireturn, 1) := by decide +kernel
theorem dX8_startGame_41 : decode cX8_startGame 41 = .ok (.aload_n 0, 1) := by decide +kernel
theorem dX8_startGame_42 : decode cX8_startGame 42 = .ok (.getfield 7, 3) := by decide +kernel
theorem dX8_startGame_45 : decode cX8_startGame 45 = .ok (.iconst 4, 1) := by decide +kernel
theorem dX8_startGame_46 : decode cX8_startGame 46 = .ok (.iaload, 1) := by decide +kernel
theorem dX8_startGame_47 : decode cX8_startGame 47 = .ok (.bipush 30, 2) := by decide +kernel
theorem dX8_startGame_49 : decode cX8_startGame 49 = .ok (.if_icmp .ne 6, 3) := by decide +kernel
theorem dX8_startGame_52 : decode cX8_startGame 52 = .ok (.bipush (-3), 2) := by decide +kernel
theorem dX8_startGame_54 : decode cX8_startGame 54 = .ok (.ireturn, 1) := by decide +kernel
theorem dX8_startGame_55 : decode cX8_startGame 55 = .ok (.aload_n 0, 1) := by decide +kernel
theorem dX8_startGame_56 : decode cX8_startGame 56 = .ok (.getfield 7, 3) := by decide +kernel
theorem dX8_startGame_59 : decode cX8_startGame 59 = .ok (.bipush 11, 2) := by decide +kernel
theorem dX8_startGame_61 : decode cX8_startGame 61 = .ok (.aload_n 0, 1) := by decide +kernel
theorem dX8_startGame_62 : decode cX8_startGame 62 = .ok (.getfield 7, 3) := by decide +kernel
theorem dX8_startGame_65 : decode cX8_startGame 65 = .ok (.sipush 176, 3) := by decide +kernel
theorem dX8_startGame_68 : decode cX8_startGame 68 = .ok (.iaload, 1) := by decide +kernel
theorem dX8_startGame_69 : decode cX8_startGame 69 = .ok (.iastore, 1) := by decide +kernel
theorem dX8_startGame_70 : decode cX8_startGame 70 = .ok (.aload_n 0, 1) := by decide +kernel
theorem dX8_startGame_71 : decode cX8_startGame 71 = .ok (.getfield 7, 3) := by decide +kernel
theorem dX8_startGame_74 : decode cX8_startGame 74 = .ok (.bipush 12, 2) := by decide +kernel
theorem dX8_startGame_76 : decode cX8_startGame 76 = .ok (.aload_n 0, 1) := by decide +kernel
theorem dX8_startGame_77 : decode cX8_startGame 77 = .ok (.getfield 7, 3) := by decide +kernel
theorem dX8_startGame_80 : decode cX8_startGame 80 = .ok (.sipush 184, 3) := by decide +kernel
theorem dX8_startGame_83 : decode cX8_startGame 83 = .ok (.iaload, 1) := by decide +kernel
theorem dX8_startGame_84 : decode cX8_startGame 84 = .ok (.iastore, 1) := by decide +kernel
theorem dX8_startGame_85 : decode cX8_startGame 85 = .ok (.aload_n 0, 1) := by decide +kernel
theorem dX8_startGame_86 : decode cX8_startGame 86 = .ok (.iconst 0, 1) := by decide +kernel
theorem dX8_startGame_87 : decode cX8_startGame 87 = .ok (.invokevirtual 112, 3) := by decide +kernel
theorem dX8_startGame_90 : decode cX8_startGame 90 = .ok (.aload_n 0, 1) := by decide +kernel
theorem dX8_startGame_91 : decode cX8_startGame 91 = .ok (.getfield 7, 3) := by decide +kernel
theorem dX8_startGame_94 : decode cX8_startGame 94 = .ok (.bipush 12, 2) := by decide +kernel
theorem dX8_startGame_96 : decode cX8_startGame 96 = .ok (.iaload, 1) := by decide +kernel
theorem dX8_startGame_97 : decode cX8_startGame 97 = .ok (.aload_n 0, 1) := by decide +kernel
theorem dX8_startGame_98 : decode cX8_startGame 98 = .ok (.getfield 7, 3) := by decide +kernel
theorem dX8_startGame_101 : decode cX8_startGame 101 = .ok (.bipush 9, 2) := by decide +kernel
theorem dX8_startGame_103 : decode cX8_startGame 103 = .ok (.iaload, 1) := by decide +kernel
theorem dX8_startGame_104 : decode cX8_startGame 104 = .ok (.if_icmp .le 22, 3) := by decide +kernel
theorem dX8_startGame_107 : decode cX8_startGame 107 = .ok (.aload_n 0, 1) := by decide +kernel
theorem dX8_startGame_108 : decode cX8_startGame 108 = .ok (.aload_n 0, 1) := by decide +kernel
theorem dX8_startGame_109 : decode cX8_startGame 109 = .ok (.getfield 7, 3) := by decide +kernel
theorem dX8_startGame_112 : decode cX8_startGame 112 = .ok (.bipush 12, 2) := by decide +kernel
theorem dX8_startGame_114 : decode cX8_startGame 114 = .ok (.iaload, 1) := by decide +kernel
theorem dX8_startGame_115 : decode cX8_startGame 115 = .ok (.aload_n 0, 1) := by decide +kernel
theorem dX8_startGame_116 : decode cX8_startGame 116 = .ok (.getfield 7, 3) := by decide +kernel
theorem dX8_startGame_119 : decode cX8_startGame 119 = .ok (.bipush 9, 2) := by decide +kernel
theorem dX8_startGame_121 : decode cX8_startGame 121 = .ok (.iaload, 1) := by decide +kernel
theorem dX8_startGame_122 : decode cX8_startGame 122 = .ok (.isub, 1) := by decide +kernel
theorem dX8_startGame_123 : decode cX8_startGame 123 = .ok (.invokevirtual 115, 3) := by decide +kernel
theorem dX8_startGame_126 : decode cX8_startGame 126 = .ok (.aload_n 0, 1) := by decide +kernel
theorem dX8_startGame_127 : decode cX8_startGame 127 = .ok (.getfield 7, 3) := by decide +kernel
theorem dX8_startGame_130 : decode cX8_startGame 130 = .ok (.bipush 10, 2) := by decide +kernel
theorem dX8_startGame_132 : decode cX8_startGame 132 = .ok (.iconst 1, 1) := by decide +kernel
theorem dX8_startGame_133 : decode cX8_startGame 133 = .ok (.iastore, 1) := by decide +kernel
theorem dX8_startGame_134 : decode cX8_startGame 134 = .ok (.aload_n 0, 1) := by decide +kernel
theorem dX8_startGame_135 : decode cX8_startGame 135 = .ok (.getfield 7, 3) := by decide +kernel
theorem dX8_startGame_138 : decode cX8_startGame 138 = .ok (.bipush 13, 2) := by decide +kernel
theorem dX8_startGame_140 : decode cX8_startGame 140 = .ok (.aload_n 0, 1) := by decide +kernel
theorem dX8_startGame_141 : decode cX8_startGame 141 = .ok (.getfield 7, 3) := by decide +kernel
theorem dX8_startGame_144 : decode cX8_startGame 144 = .ok (.bipush 9, 2) := by decide +kernel
theorem dX8_startGame_146 : decode cX8_startGame 146 = .ok (.iaload, 1) := by decide +kernel
theorem dX8_startGame_147 : decode cX8_startGame 147 = .ok (.iastore, 1) := by decide +kernel
theorem dX8_startGame_148 : decode cX8_startGame 148 = .ok (.aload_n 0, 1) := by decide +kernel
theorem dX8_startGame_149 : decode cX8_startGame 149 = .ok (.getfield 7, 3) := by decide +kernel
theorem dX8_startGame_152 : decode cX8_startGame 152 = .ok (.bipush 14, 2) := by decide +kernel
theorem dX8_startGame_154 : decode cX8_startGame 154 = .ok (.iconst 0, 1) := by decide +kernel
theorem dX8_startGame_155 : decode cX8_startGame 155 = .ok (.iastore, 1) := by decide +kernel
theorem dX8_startGame_156 : decode cX8_startGame 156 = .ok (.aload_n 0, 1) := by decide +kernel
theorem dX8_startGame_157 : decode cX8_startGame 157 = .ok (.getfield 7, 3) := by decide +kernel
theorem dX8_startGame_160 : decode cX8_startGame 160 = .ok (.bipush 15, 2) := by decide +kernel
theorem dX8_startGame_162 : decode cX8_startGame 162 = .ok (.iconst 0, 1) := by decide +kernel
theorem dX8_startGame_163 : decode cX8_startGame 163 = .ok (.iastore, 1) := by decide +kernel
theorem dX8_startGame_164 : decode cX8_startGame 164 = .ok (.aload_n 0, 1) := by decide +kernel
theorem dX8_startGame_165 : decode cX8_startGame 165 = .ok (.getfield 7, 3) := by decide +kernel
theorem dX8_startGame_168 : decode cX8_startGame 168 = .ok (.bipush 16, 2) := by decide +kernel
theorem dX8_startGame_170 : decode cX8_startGame 170 = .ok (.aload_n 0, 1) := by decide +kernel
theorem dX8_startGame_171 : decode cX8_startGame 171 = .ok (.invokevirtual 118, 3) := by decide +kernel
theorem dX8_startGame_174 : decode cX8_startGame 174 = .ok (.aload_n 0, 1) := by decide +kernel
theorem dX8_startGame_175 : decode cX8_startGame 175 = .ok (.invokevirtual 121, 3) := by decide +kernel
theorem dX8_startGame_178 : decode cX8_startGame 178 = .ok (.iadd, 1) := by decide +kernel
theorem dX8_startGame_179 : decode cX8_startGame 179 = .ok (.iastore, 1) := by decide +kernel
theorem dX8_startGame_180 : decode cX8_startGame 180 = .ok (.aload_n 0, 1) := by decide +kernel
theorem dX8_startGame_181 : decode cX8_startGame 181 = .ok (.getfield 7, 3) := by decide +kernel
theorem dX8_startGame_184 : decode cX8_startGame 184 = .ok (.bipush 17, 2) := by decide +kernel
theorem dX8_startGame_186 : decode cX8_startGame 186 = .ok (.iconst 0, 1) := by decide +kernel
theorem dX8_startGame_187 : decode cX8_startGame 187 = .ok (.iastore, 1) := by decide +kernel
theorem dX8_startGame_188 : decode cX8_startGame 188 = .ok (.iconst 0, 1) := by decide +kernel
theorem dX8_startGame_189 : decode cX8_startGame 189 = .ok (.istore_n 1, 1) := by decide +kernel
theorem dX8_startGame_190 : decode cX8_startGame 190 = .ok (.iload_n 1, 1) := by decide +kernel
theorem dX8_startGame_191 : decode cX8_startGame 191 = .ok (.bipush 12, 2) := by decide +kernel
theorem dX8_startGame_193 : decode cX8_startGame 193 = .ok (.if_icmp .ge 19, 3) := by decide +kernel
theorem dX8_startGame_196 : decode cX8_startGame 196 = .ok (.aload_n 0, 1) := by decide +kernel
theorem dX8_startGame_197 : decode cX8_startGame 197 = .ok (.getfield 7, 3) := by decide +kernel
theorem dX8_startGame_200 : decode cX8_startGame 200 = .ok (.bipush 68, 2) := by decide +kernel
theorem dX8_startGame_202 : decode cX8_startGame 202 = .ok (.iload_n 1, 1) := by decide +kernel
theorem dX8_startGame_203 : decode cX8_startGame 203 = .ok (.iadd, 1) := by decide +kernel
theorem dX8_startGame_204 : decode cX8_startGame 204 = .ok (.iconst 0, 1) := by decide +kernel
theorem dX8_startGame_205 : decode cX8_startGame 205 = .ok (.iastore, 1) := by decide +kernel
theorem dX8_startGame_206 : decode cX8_startGame 206 = .ok (.iinc 1 1, 3) := by decide +kernel
theorem dX8_startGame_209 : decode cX8_startGame 209 = .ok (.goto (-19), 3) := by decide +kernel
theorem dX8_startGame_212 : decode cX8_startGame 212 = .ok (.aload_n 0, 1) := by decide +kernel
theorem dX8_startGame_213 : decode cX8_startGame 213 = .ok (.getfield 7, 3) := by decide +kernel
theorem dX8_startGame_216 : decode cX8_startGame 216 = .ok (.bipush 13, 2) := by decide +kernel
theorem dX8_startGame_218 : decode cX8_startGame 218 = .ok (.iaload, 1) := by decide +kernel
theorem dX8_startGame_219 : decode cX8_startGame 219 = .ok (.aload_n 0, 1) := by decide +kernel
theorem dX8_startGame_220 : decode cX8_startGame 220 = .ok (.getfield 7, 3) := by decide +kernel
theorem dX8_startGame_223 : decode cX8_startGame 223 = .ok (.bipush 12, 2) := by decide +kernel
theorem dX8_startGame_225 : decode cX8_startGame 225 = .ok (.iaload, 1) := by decide +kernel
theorem dX8_startGame_226 : decode cX8_startGame 226 = .ok (.isub, 1) := by decide +kernel
theorem dX8_startGame_227 : decode cX8_startGame 227 = .ok (.ireturn, 1) := by decide +kernel
theorem dX8_note_0 : decode cX8_note 0 = .ok (.sipush 402, 3) := by decide +kernel
theorem dX8_note_3 : decode cX8_note 3 = .ok (.iconst 4, 1) := by decide +kernel
theorem dX8_note_4 : decode cX8_note 4 = .ok (.aload_n 0, 1) := by decide +kernel
theorem dX8_note_5 : decode cX8_note 5 = .ok (.getfield 7, 3) := by decide +kernel
theorem dX8_note_8 : decode cX8_note 8 = .ok (.bipush 17, 2) := by decide +kernel
theorem dX8_note_10 : decode cX8_note 10 = .ok (.iaload, 1) := by decide +kernel
theorem dX8_note_11 : decode cX8_note 11 = .ok (.imul, 1) := by decide +kernel
theorem dX8_note_12 : decode cX8_note 12 = .ok (.iadd, 1) := by decide +kernel
theorem dX8_note_13 : decode cX8_note 13 = .ok (.istore 4, 2) := by decide +kernel
theorem dX8_note_15 : decode cX8_note 15 = .ok (.aload_n 0, 1) := by decide +kernel
theorem dX8_note_16 : decode cX8_note 16 = .ok (.getfield 7, 3) := by decide +kernel
theorem dX8_note_19 : decode cX8_note 19 = .ok (.iload 4, 2) := by decide +kernel
theorem dX8_note_21 : decode cX8_note 21 = .ok (.aload_n 0, 1) := by decide +kernel
theorem dX8_note_22 : decode cX8_note 22 = .ok (.getfield 7, 3) := by decide +kernel
theorem dX8_note_25 : decode cX8_note 25 = .ok (.bipush 9, 2) := by decide +kernel
theorem dX8_note_27 : decode cX8_note 27 = .ok (.iaload, 1) := by decide +kernel
theorem dX8_note_28 : decode cX8_note 28 = .ok (.aload_n 0, 1) := by decide +kernel
theorem dX8_note_29 : decode cX8_note 29 = .ok (.getfield 7, 3) := by decide +kernel
theorem dX8_note_32 : decode cX8_note 32 = .ok (.bipush 13, 2) := by decide +kernel
theorem dX8_note_34 : decode cX8_note 34 = .ok (.iaload, 1) := by decide +kernel
theorem dX8_note_35 : decode cX8_note 35 = .ok (.isub, 1) := by decide +kernel
theorem dX8_note_36 : decode cX8_note 36 = .ok (.iastore, 1) := by decide +kernel
theorem dX8_note_37 : decode cX8_note 37 = .ok (.aload_n 0, 1) := by decide +kernel
theorem dX8_note_38 : decode cX8_note 38 = .ok (.getfield 7, 3) := by decide +kernel
theorem dX8_note_41 : decode cX8_note 41 = .ok (.iload 4, 2) := by decide +kernel
theorem dX8_note_43 : decode cX8_note 43 = .ok (.iconst 1, 1) := by decide +kernel
theorem dX8_note_44 : decode cX8_note 44 = .ok (.iadd, 1) := by decide +kernel
theorem dX8_note_45 : decode cX8_note 45 = .ok (.iload_n 1, 1) := by decide +kernel
theorem dX8_note_46 : decode cX8_note 46 = .ok (.iastore, 1) := by decide +kernel
theorem dX8_note_47 : decode cX8_note 47 = .ok (.aload_n 0, 1) := by decide +kernel
theorem dX8_note_48 : decode cX8_note 48 = .ok (.getfield 7, 3) := by decide +kernel
theorem dX8_note_51 : decode cX8_note 51 = .ok (.iload 4, 2) := by decide +kernel
theorem dX8_note_53 : decode cX8_note 53 = .ok (.iconst 2, 1) := by decide +kernel
theorem dX8_note_54 : decode cX8_note 54 = .ok (.iadd, 1) := by decide +kernel
theorem dX8_note_55 : decode cX8_note 55 = .ok (.iload_n 2, 1) := by decide +kernel
theorem dX8_note_56 : decode cX8_note 56 = .ok (.iastore, 1) := by decide +kernel
theorem dX8_note_57 : decode cX8_note 57 = .ok (.aload_n 0, 1) := by decide +kernel
theorem dX8_note_58 : decode cX8_note 58 = .ok (.getfield 7, 3) := by decide +kernel
theorem dX8_note_61 : decode cX8_note 61 = .ok (.iload 4, 2) := by decide +kernel
theorem dX8_note_63 : decode cX8_note 63 = .ok (.iconst 3, 1) := by decide +kernel
theorem dX8_note_64 : decode cX8_note 64 = .ok (.iadd, 1) := by decide +kernel
theorem dX8_note_65 : decode cX8_note 65 = .ok (.iload_n 3, 1) := by decide +kernel
theorem dX8_note_66 : decode cX8_note 66 = .ok (.iastore, 1) := by decide +kernel
theorem dX8_note_67 : decode cX8_note 67 = .ok (.aload_n 0, 1) := by decide +kernel
theorem dX8_note_68 : decode cX8_note 68 = .ok (.getfield 7, 3) := by decide +kernel
theorem dX8_note_71 : decode cX8_note 71 = .ok (.bipush 17, 2) := by decide +kernel
theorem dX8_note_73 : decode cX8_note 73 = .ok (.dup2, 1) := by decide +kernel
theorem dX8_note_74 : decode cX8_note 74 = .ok (.iaload, 1) := by decide +kernel
theorem dX8_note_75 : decode cX8_note 75 = .ok (.iconst 1, 1) := by decide +kernel
theorem dX8_note_76 : decode cX8_note 76 = .ok (.iadd, 1) := by decide +kernel
theorem dX8_note_77 : decode cX8_note 77 = .ok (.iastore, 1) := by decide +kernel
theorem dX8_note_78 : decode cX8_note 78 = .ok (.return_, 1) := by decide +kernel
theorem dX8_end_0 : decode cX8_end 0 = .ok (.iconst 0, 1) := by decide +kernel
theorem dX8_end_1 : decode cX8_end 1 = .ok (.istore_n 2, 1) := by decide +kernel
theorem dX8_end_2 : decode cX8_end 2 = .ok (.iload_n 2, 1) := by decide +kernel
theorem dX8_end_3 : decode cX8_end 3 = .ok (.aload_n 0, 1) := by decide +kernel
theorem dX8_end_4 : decode cX8_end 4 = .ok (.getfield 7, 3) := by decide +kernel
theorem dX8_end_7 : decode cX8_end 7 = .ok (.iconst 1, 1) := by decide +kernel
theorem dX8_end_8 : decode cX8_end 8 = .ok (.iaload, 1) := by decide +kernel
theorem dX8_end_9 : decode cX8_end 9 = .ok (.if_icmp .ge 39, 3) := by decide +kernel
theorem dX8_end_12 : decode cX8_end 12 = .ok (.aload_n 0, 1) := by decide +kernel
theorem dX8_end_13 : decode cX8_end 13 = .ok (.getfield 7, 3) := by decide +kernel
theorem dX8_end_16 : decode cX8_end 16 = .ok (.bipush 104, 2) := by decide +kernel
theorem dX8_end_18 : decode cX8_end 18 = .ok (.iload_n 2, 1) := by decide +kernel
theorem dX8_end_19 : decode cX8_end 19 = .ok (.iadd, 1) := by decide +kernel
theorem dX8_end_20 : decode cX8_end 20 = .ok (.aload_n 0, 1) := by decide +kernel
theorem dX8_end_21 : decode cX8_end 21 = .ok (.iload_n 2, 1) := by decide +kernel
theorem dX8_end_22 : decode cX8_end 22 = .ok (.invokevirtual 45, 3) := by decide +kernel
theorem dX8_end_25 : decode cX8_end 25 = .ok (.ifCond .eq 7, 3) := by decide +kernel
theorem dX8_end_28 : decode cX8_end 28 = .ok (.iconst 0, 1) := by decide +kernel
theorem dX8_end_29 : decode cX8_end 29 = .ok (.goto 12, 3) := by decide +kernel
theorem dX8_end_32 : decode cX8_end 32 = .ok (.aload_n 0, 1) := by decide +kernel
theorem dX8_end_33 : decode cX8_end 33 = .ok (.getfield 7, 3) := by decide +kernel
theorem dX8_end_36 : decode cX8_end 36 = .ok (.bipush 104, 2) := by decide +kernel
theorem dX8_end_38 : decode cX8_end 38 = .ok (.iload_n 2, 1) := by decide +kernel
theorem dX8_end_39 : decode cX8_end 39 = .ok (.iadd, 1) := by decide +kernel
theorem dX8_end_40 : decode cX8_end 40 = .ok (.iaload, 1) := by decide +kernel
theorem dX8_end_41 : decode cX8_end 41 = .ok (.iastore, 1) := by decide +kernel
theorem dX8_end_42 : decode cX8_end 42 = .ok (.iinc 2 1, 3) := by decide +kernel
theorem dX8_end_45 : decode cX8_end 45 = .ok (.goto (-43), 3) := by decide +kernel
theorem dX8_end_48 : decode cX8_end 48 = .ok (.sipush 192, 3) := by decide +kernel
theorem dX8_end_51 : decode cX8_end 51 = .ok (.bipush 7, 2) := by decide +kernel
theorem dX8_end_53 : decode cX8_end 53 = .ok (.aload_n 0, 1) := by decide +kernel
theorem dX8_end_54 : decode cX8_end 54 = .ok (.getfield 7, 3) := by decide +kernel
theorem dX8_end_57 : decode cX8_end 57 = .ok (.iconst 4, 1) := by decide +kernel
theorem dX8_end_58 : decode cX8_end 58 = .ok (.iaload, 1) := by decide +kernel
theorem dX8_end_59 : decode cX8_end 59 = .ok (.imul, 1) := by decide +kernel
theorem dX8_end_60 : decode cX8_end 60 = .ok (.iadd, 1) := by decide +kernel
theorem dX8_end_61 : decode cX8_end 61 = .ok (.istore_n 2, 1) := by decide +kernel
theorem dX8_end_62 : decode cX8_end 62 = .ok (.aload_n 0, 1) := by decide +kernel
theorem dX8_end_63 : decode cX8_end 63 = .ok (.getfield 7, 3) := by decide +kernel
theorem dX8_end_66 : decode cX8_end 66 = .ok (.iload_n 2, 1) := by decide +kernel
theorem dX8_end_67 : decode cX8_end 67 = .ok (.aload_n 0, 1) := by decide +kernel
theorem dX8_end_68 : decode cX8_end 68 = .ok (.getfield 7, 3) := by decide +kernel
theorem dX8_end_71 : decode cX8_end 71 = .ok (.bipush 11, 2) := by decide +kernel
theorem dX8_end_73 : decode cX8_end 73 = .ok (.iaload, 1) := by decide +kernel
theorem dX8_end_74 : decode cX8_end 74 = .ok (.iastore, 1) := by decide +kernel
theorem dX8_end_75 : decode cX8_end 75 = .ok (.aload_n 0, 1) := by decide +kernel
theorem dX8_end_76 : decode cX8_end 76 = .ok (.getfield 7, 3) := by decide +kernel
theorem dX8_end_79 : decode cX8_end 79 = .ok (.iload_n 2, 1) := by decide +kernel
theorem dX8_end_80 : decode cX8_end 80 = .ok (.iconst 1, 1) := by decide +kernel
theorem dX8_end_81 : decode cX8_end 81 = .ok (.iadd, 1) := by decide +kernel
theorem dX8_end_82 : decode cX8_end 82 = .ok (.aload_n 0, 1) := by decide +kernel
theorem dX8_end_83 : decode cX8_end 83 = .ok (.getfield 7, 3) := by decide +kernel
theorem dX8_end_86 : decode cX8_end 86 = .ok (.bipush 12, 2) := by decide +kernel
theorem dX8_end_88 : decode cX8_end 88 = .ok (.iaload, 1) := by decide +kernel
theorem dX8_end_89 : decode cX8_end 89 = .ok (.iastore, 1) := by decide +kernel
theorem dX8_end_90 : decode cX8_end 90 = .ok (.aload_n 0, 1) := by decide +kernel
theorem dX8_end_91 : decode cX8_end 91 = .ok (.getfield 7, 3) := by decide +kernel
theorem dX8_end_94 : decode cX8_end 94 = .ok (.iload_n 2, 1) := by decide +kernel
theorem dX8_end_95 : decode cX8_end 95 = .ok (.iconst 2, 1) := by decide +kernel
theorem dX8_end_96 : decode cX8_end 96 = .ok (.iadd, 1) := by decide +kernel
theorem dX8_end_97 : decode cX8_end 97 = .ok (.aload_n 0, 1) := by decide +kernel
theorem dX8_end_98 : decode cX8_end 98 = .ok (.getfield 7, 3) := by decide +kernel
theorem dX8_end_101 : decode cX8_end 101 = .ok (.bipush 13, 2) := by decide +kernel
theorem dX8_end_103 : decode cX8_end 103 = .ok (.iaload, 1) := by decide +kernel
theorem dX8_end_104 : decode cX8_end 104 = .ok (.iastore, 1) := by decide +kernel
theorem dX8_end_105 : decode cX8_end 105 = .ok (.aload_n 0, 1) := by decide +kernel
theorem dX8_end_106 : decode cX8_end 106 = .ok (.getfield 7, 3) := by decide +kernel
theorem dX8_end_109 : decode cX8_end 109 = .ok (.iload_n 2, 1) := by decide +kernel
theorem dX8_end_110 : decode cX8_end 110 = .ok (.iconst 3, 1) := by decide +kernel
theorem dX8_end_111 : decode cX8_end 111 = .ok (.iadd, 1) := by decide +kernel
theorem dX8_end_112 : decode cX8_end 112 = .ok (.aload_n 0, 1) := by decide +kernel
theorem dX8_end_113 : decode cX8_end 113 = .ok (.getfield 7, 3) := by decide +kernel
theorem dX8_end_116 : decode cX8_end 116 = .ok (.bipush 9, 2) := by decide +kernel
theorem dX8_end_118 : decode cX8_end 118 = .ok (.iaload, 1) := by decide +kernel
theorem dX8_end_119 : decode cX8_end 119 = .ok (.aload_n 0, 1) := by decide +kernel
theorem dX8_end_120 : decode cX8_end 120 = .ok (.getfield 7, 3) := by decide +kernel
theorem dX8_end_123 : decode cX8_end 123 = .ok (.bipush 13, 2) := by decide +kernel
theorem dX8_end_125 : decode cX8_end 125 = .ok (.iaload, 1) := by decide +kernel
theorem dX8_end_126 : decode cX8_end 126 = .ok (.isub, 1) := by decide +kernel
theorem dX8_end_127 : decode cX8_end 127 = .ok (.iastore, 1) := by decide +kernel
theorem dX8_end_128 : decode cX8_end 128 = .ok (.aload_n 0, 1) := by decide +kernel
theorem dX8_end_129 : decode cX8_end 129 = .ok (.getfield 7, 3) := by decide +kernel
theorem dX8_end_132 : decode cX8_end 132 = .ok (.iload_n 2, 1) := by decide +kernel
theorem dX8_end_133 : decode cX8_end 133 = .ok (.iconst 4, 1) := by decide +kernel
theorem dX8_end_134 : decode cX8_end 134 = .ok (.iadd, 1) := by decide +kernel
theorem dX8_end_135 : decode cX8_end 135 = .ok (.iload_n 1, 1) := by decide +kernel
theorem dX8_end_136 : decode cX8_end 136 = .ok (.iastore, 1) := by decide +kernel
theorem dX8_end_137 : decode cX8_end 137 = .ok (.aload_n 0, 1) := by decide +kernel
theorem dX8_end_138 : decode cX8_end 138 = .ok (.getfield 7, 3) := by decide +kernel
theorem dX8_end_141 : decode cX8_end 141 = .ok (.iload_n 2, 1) := by decide +kernel
theorem dX8_end_142 : decode cX8_end 142 = .ok (.iconst 5, 1) := by decide +kernel
theorem dX8_end_143 : decode cX8_end 143 = .ok (.iadd, 1) := by decide +kernel
theorem dX8_end_144 : decode cX8_end 144 = .ok (.aload_n 0, 1) := by decide +kernel
theorem dX8_end_145 : decode cX8_end 145 = .ok (.getfield 7, 3) := by decide +kernel
theorem dX8_end_148 : decode cX8_end 148 = .ok (.bipush 14, 2) := by decide +kernel
theorem dX8_end_150 : decode cX8_end 150 = .ok (.iaload, 1) := by decide +kernel
theorem dX8_end_151 : decode cX8_end 151 = .ok (.iastore, 1) := by decide +kernel
theorem dX8_end_152 : decode cX8_end 152 = .ok (.aload_n 0, 1) := by decide +kernel
theorem dX8_end_153 : decode cX8_end 153 = .ok (.getfield 7, 3) := by decide +kernel
theorem dX8_end_156 : decode cX8_end 156 = .ok (.iload_n 2, 1) := by decide +kernel
theorem dX8_end_157 : decode cX8_end 157 = .ok (.bipush 6, 2) := by decide +kernel
theorem dX8_end_159 : decode cX8_end 159 = .ok (.iadd, 1) := by decide +kernel
theorem dX8_end_160 : decode cX8_end 160 = .ok (.aload_n 0, 1) := by decide +kernel
theorem dX8_end_161 : decode cX8_end 161 = .ok (.getfield 7, 3) := by decide +kernel
theorem dX8_end_164 : decode cX8_end 164 = .ok (.bipush 16, 2) := by decide +kernel
theorem dX8_end_166 : decode cX8_end 166 = .ok (.iaload, 1) := by decide +kernel
theorem dX8_end_167 : decode cX8_end 167 = .ok (.iastore, 1) := by decide +kernel
theorem dX8_end_168 : decode cX8_end 168 = .ok (.aload_n 0, 1) := by decide +kernel
theorem dX8_end_169 : decode cX8_end 169 = .ok (.getfield 7, 3) := by decide +kernel
theorem dX8_end_172 : decode cX8_end 172 = .ok (.iconst 4, 1) := by decide +kernel
theorem dX8_end_173 : decode cX8_end 173 = .ok (.dup2, 1) := by decide +kernel
theorem dX8_end_174 : decode cX8_end 174 = .ok (.iaload, 1) := by decide +kernel
theorem dX8_end_175 : decode cX8_end 175 = .ok (.iconst 1, 1) := by decide +kernel
theorem dX8_end_176 : decode cX8_end 176 = .ok (.iadd, 1) := by decide +kernel
theorem dX8_end_177 : decode cX8_end 177 = .ok (.iastore, 1) := by decide +kernel
theorem dX8_end_178 : decode cX8_end 178 = .ok (.aload_n 0, 1) := by decide +kernel
theorem dX8_end_179 : decode cX8_end 179 = .ok (.getfield 7, 3) := by decide +kernel
theorem dX8_end_182 : decode cX8_end 182 = .ok (.bipush 10, 2) := by decide +kernel
theorem dX8_end_184 : decode cX8_end 184 = .ok (.iconst 0, 1) := by decide +kernel
theorem dX8_end_185 : decode cX8_end 185 = .ok (.iastore, 1) := by decide +kernel
theorem dX8_end_186 : decode cX8_end 186 = .ok (.return_, 1) := by decide +kernel
theorem dX8_minutesLeft_0 : decode cX8_minutesLeft 0 = .ok (.aload_n 0, 1) := by decide +kernel
theorem dX8_minutesLeft_1 : decode cX8_minutesLeft 1 = .ok (.getfield 7, 3) := by decide +kernel
theorem dX8_minutesLeft_4 : decode cX8_minutesLeft 4 = .ok (.bipush 13, 2) := by decide +kernel
theorem dX8_minutesLeft_6 : decode cX8_minutesLeft 6 = .ok (.iaload, 1) := by decide +kernel
theorem dX8_minutesLeft_7 : decode cX8_minutesLeft 7 = .ok (.aload_n 0, 1) := by decide +kernel
theorem dX8_minutesLeft_8 : decode cX8_minutesLeft 8 = .ok (.getfield 7, 3) := by decide +kernel
theorem dX8_minutesLeft_11 : decode cX8_minutesLeft 11 = .ok (.bipush 6, 2) := by decide +kernel
theorem dX8_minutesLeft_13 : decode cX8_minutesLeft 13 = .ok (.iaload, 1) := by decide +kernel
theorem dX8_minutesLeft_14 : decode cX8_minutesLeft 14 = .ok (.iadd, 1) := by decide +kernel
theorem dX8_minutesLeft_15 : decode cX8_minutesLeft 15 = .ok (.aload_n 0, 1) := by decide +kernel
theorem dX8_minutesLeft_16 : decode cX8_minutesLeft 16 = .ok (.getfield 7, 3) := by decide +kernel
theorem dX8_minutesLeft_19 : decode cX8_minutesLeft 19 = .ok (.bipush 9, 2) := by decide +kernel
theorem dX8_minutesLeft_21 : decode cX8_minutesLeft 21 = .ok (.iaload, 1) := by decide +kernel
theorem dX8_minutesLeft_22 : decode cX8_minutesLeft 22 = .ok (.isub, 1) := by decide +kernel
theorem dX8_minutesLeft_23 : decode cX8_minutesLeft 23 = .ok (.ireturn, 1) := by decide +kernel
theorem dX8_lessHalf_0 : decode cX8_lessHalf 0 = .ok (.iload_n 1, 1) := by decide +kernel
theorem dX8_lessHalf_1 : decode cX8_lessHalf 1 = .ok (.aload_n 0, 1) := by decide +kernel
theorem dX8_lessHalf_2 : decode cX8_lessHalf 2 = .ok (.getfield 7, 3) := by decide +kernel
theorem dX8_lessHalf_5 : decode cX8_lessHalf 5 = .ok (.bipush 11, 2) := by decide +kernel
theorem dX8_lessHalf_7 : decode cX8_lessHalf 7 = .ok (.iaload, 1) := by decide +kernel
theorem dX8_lessHalf_8 : decode cX8_lessHalf 8 = .ok (.iconst 2, 1) := by decide +kernel
theorem dX8_lessHalf_9 : decode cX8_lessHalf 9 = .ok (.idiv, 1) := by decide +kernel
theorem dX8_lessHalf_10 : decode cX8_lessHalf 10 = .ok (.isub, 1) := by decide +kernel
theorem dX8_lessHalf_11 : decode cX8_lessHalf 11 = .ok (.istore_n 2, 1) := by decide +kernel
theorem dX8_lessHalf_12 : decode cX8_lessHalf 12 = .ok (.iload_n 2, 1) := by decide +kernel
theorem dX8_lessHalf_13 : decode cX8_lessHalf 13 = .ok (.iconst 1, 1) := by decide +kernel
theorem dX8_lessHalf_14 : decode cX8_lessHalf 14 = .ok (.if_icmp .le 7, 3) := by decide +kernel
theorem dX8_lessHalf_17 : decode cX8_lessHalf 17 = .ok (.iload_n 2, 1) := by decide +kernel
theorem dX8_lessHalf_18 : decode cX8_lessHalf 18 = .ok (.goto 4, 3) := by decide +kernel
theorem dX8_lessHalf_21 : decode cX8_lessHalf 21 = .ok (.iconst 1, 1) := by decide +kernel
theorem dX8_lessHalf_22 : decode cX8_lessHalf 22 = .ok (.ireturn, 1) := by decide +kernel
theorem dX8_readMinutes_0 : decode cX8_readMinutes 0 = .ok (.aload_n 0, 1) := by decide +kernel
theorem dX8_readMinutes_1 : decode cX8_readMinutes 1 = .ok (.iconst 3, 1) := by decide +kernel
theorem dX8_readMinutes_2 : decode cX8_readMinutes 2 = .ok (.invokevirtual 124, 3) := by decide +kernel
theorem dX8_readMinutes_5 : decode cX8_readMinutes 5 = .ok (.istore_n 2, 1) := by decide +kernel
theorem dX8_readMinutes_6 : decode cX8_readMinutes 6 = .ok (.aload_n 0, 1) := by decide +kernel
theorem dX8_readMinutes_7 : decode cX8_readMinutes 7 = .ok (.getfield 7, 3) := by decide +kernel
theorem dX8_readMinutes_10 : decode cX8_readMinutes 10 = .ok (.sipush 164, 3) := by decide +kernel
theorem dX8_readMinutes_13 : decode cX8_readMinutes 13 = .ok (.iload_n 1, 1) := by decide +kernel
theorem dX8_readMinutes_14 : decode cX8_readMinutes 14 = .ok (.iadd, 1) := by decide +kernel
theorem dX8_readMinutes_15 : decode cX8_readMinutes 15 = .ok (.iaload, 1) := by decide +kernel
theorem dX8_readMinutes_16 : decode cX8_readMinutes 16 = .ok (.iconst 4, 1) := by decide +kernel
theorem dX8_readMinutes_17 : decode cX8_readMinutes 17 = .ok (.if_icmp .ge 9, 3) := by decide +kernel
theorem dX8_readMinutes_20 : decode cX8_readMinutes 20 = .ok (.iconst 2, 1) := by decide +kernel
theorem dX8_readMinutes_21 : decode cX8_readMinutes 21 = .ok (.iload_n 2, 1) := by decide +kernel
theorem dX8_readMinutes_22 : decode cX8_readMinutes 22 = .ok (.imul, 1) := by decide +kernel
theorem dX8_readMinutes_23 : decode cX8_readMinutes 23 = .ok (.goto 4, 3) := by decide +kernel
theorem dX8_readMinutes_26 : decode cX8_readMinutes 26 = .ok (.iload_n 2, 1) := by decide +kernel
theorem dX8_readMinutes_27 : decode cX8_readMinutes 27 = .ok (.ireturn, 1) := by decide +kernel
theorem dX8_isOver_0 : decode cX8_isOver 0 = .ok (.iload_n 1, 1) := by decide +kernel
theorem dX8_isOver_1 : decode cX8_isOver 1 = .ok (.aload_n 0, 1) := by decide +kernel
theorem dX8_isOver_2 : decode cX8_isOver 2 = .ok (.invokevirtual 127, 3) := by decide +kernel
theorem dX8_isOver_5 : decode cX8_isOver 5 = .ok (.if_icmp .gt 5, 3) := by decide +kernel
theorem dX8_isOver_8 : decode cX8_isOver 8 = .ok (.iconst 0, 1) := by decide +kernel
theorem dX8_isOver_9 : decode cX8_isOver 9 = .ok (.ireturn, 1) := by decide +kernel
theorem dX8_isOver_10 : decode cX8_isOver 10 = .ok (.aload_n 0, 1) := by decide +kernel
theorem dX8_isOver_11 : decode cX8_isOver 11 = .ok (.bipush 6, 2) := by decide +kernel
theorem dX8_isOver_13 : decode cX8_isOver 13 = .ok (.iconst 0, 1) := by decide +kernel
theorem dX8_isOver_14 : decode cX8_isOver 14 = .ok (.iconst 0, 1) := by decide +kernel
theorem dX8_isOver_15 : decode cX8_isOver 15 = .ok (.invokevirtual 130, 3) := by decide +kernel
theorem dX8_isOver_18 : decode cX8_isOver 18 = .ok (.aload_n 0, 1) := by decide +kernel
theorem dX8_isOver_19 : decode cX8_isOver 19 = .ok (.aload_n 0, 1) := by decide +kernel
theorem dX8_isOver_20 : decode cX8_isOver 20 = .ok (.invokevirtual 127, 3) := by decide +kernel
theorem dX8_isOver_23 : decode cX8_isOver 23 = .ok (.invokevirtual 115, 3) := by decide +kernel
theorem dX8_isOver_26 : decode cX8_isOver 26 = .ok (.aload_n 0, 1) := by decide +kernel
theorem dX8_isOver_27 : decode cX8_isOver 27 = .ok (.iconst 0, 1) := by decide +kernel
theorem dX8_isOver_28 : decode cX8_isOver 28 = .ok (.invokevirtual 134, 3) := by decide +kernel
theorem dX8_isOver_31 : decode cX8_isOver 31 = .ok (.iconst 1, 1) := by decide +kernel
theorem dX8_isOver_32 : decode cX8_isOver 32 = .ok (.ireturn, 1) := by decide +kernel
theorem dX8_take_0 : decode cX8_take 0 = .ok (.aload_n 0, 1) := by decide +kernel
theorem dX8_take_1 : decode cX8_take 1 = .ok (.iload_n 1, 1) := by decide +kernel
theorem dX8_take_2 : decode cX8_take 2 = .ok (.invokevirtual 102, 3) := by decide +kernel
theorem dX8_take_5 : decode cX8_take 5 = .ok (.ifCond .eq 5, 3) := by decide +kernel
theorem dX8_take_8 : decode cX8_take 8 = .ok (.iconst (-1), 1) := by decide +kernel
theorem dX8_take_9 : decode cX8_take 9 = .ok (.ireturn, 1) := by decide +kernel
theorem dX8_take_10 : decode cX8_take 10 = .ok (.aload_n 0, 1) := by decide +kernel
theorem dX8_take_11 : decode cX8_take 11 = .ok (.invokevirtual 105, 3) := by decide +kernel
theorem dX8_take_14 : decode cX8_take 14 = .ok (.ifCond .eq 19, 3) := by decide +kernel
theorem dX8_take_17 : decode cX8_take 17 = .ok (.aload_n 0, 1) := by decide +kernel
theorem dX8_take_18 : decode cX8_take 18 = .ok (.iload_n 1, 1) := by decide +kernel
theorem dX8_take_19 : decode cX8_take 19 = .ok (.invokevirtual 45, 3) := by decide +kernel
theorem dX8_take_22 : decode cX8_take 22 = .ok (.ifCond .ne 11, 3) := by decide +kernel
theorem dX8_take_25 : decode cX8_take 25 = .ok (.aload_n 0, 1) := by decide +kernel
theorem dX8_take_26 : decode cX8_take 26 = .ok (.iload_n 1, 1) := by decide +kernel
theorem dX8_take_27 : decode cX8_take 27 = .ok (.invokevirtual 48, 3) := by decide +kernel
theorem dX8_take_30 : decode cX8_take 30 = .ok (.ifCond .ne 6, 3) := by decide +kernel
theorem dX8_take_33 : decode cX8_take 33 = .ok (.bipush (-4), 2) := by decide +kernel
theorem dX8_take_35 : decode cX8_take 35 = .ok (.ireturn, 1) := by decide +kernel
theorem dX8_take_36 : decode cX8_take 36 = .ok (.aload_n 0, 1) := by decide +kernel
theorem dX8_take_37 : decode cX8_take 37 = .ok (.invokevirtual 137, 3) := by decide +kernel
theorem dX8_take_40 : decode cX8_take 40 = .ok (.aload_n 0, 1) := by decide +kernel
theorem dX8_take_41 : decode cX8_take 41 = .ok (.getfield 7, 3) := by decide +kernel
theorem dX8_take_44 : decode cX8_take 44 = .ok (.bipush 11, 2) := by decide +kernel
theorem dX8_take_46 : decode cX8_take 46 = .ok (.iaload, 1) := by decide +kernel
theorem dX8_take_47 : decode cX8_take 47 = .ok (.if_icmp .lt 6, 3) := by decide +kernel
theorem dX8_take_50 : decode cX8_take 50 = .ok (.bipush (-3), 2) := by decide +kernel
theorem dX8_take_52 : decode cX8_take 52 = .ok (.ireturn, 1) := by decide +kernel
theorem dX8_take_53 : decode cX8_take 53 = .ok (.aload_n 0, 1) := by decide +kernel
theorem dX8_take_54 : decode cX8_take 54 = .ok (.aload_n 0, 1) := by decide +kernel
theorem dX8_take_55 : decode cX8_take 55 = .ok (.iconst 3, 1) := by decide +kernel
theorem dX8_take_56 : decode cX8_take 56 = .ok (.invokevirtual 124, 3) := by decide +kernel
theorem dX8_take_59 : decode cX8_take 59 = .ok (.invokevirtual 140, 3) := by decide +kernel
theorem dX8_take_62 : decode cX8_take 62 = .ok (.ifCond .eq 6, 3) := by decide +kernel
theorem dX8_take_65 : decode cX8_take 65 = .ok (.bipush (-6), 2) := by decide +kernel
theorem dX8_take_67 : decode cX8_take 67 = .ok (.ireturn, 1) := by decide +kernel
theorem dX8_take_68 : decode cX8_take 68 = .ok (.aload_n 0, 1) := by decide +kernel
theorem dX8_take_69 : decode cX8_take 69 = .ok (.iconst 0, 1) := by decide +kernel
theorem dX8_take_70 : decode cX8_take 70 = .ok (.iload_n 1, 1) := by decide +kernel
theorem dX8_take_71 : decode cX8_take 71 = .ok (.iconst 0, 1) := by decide +kernel
theorem dX8_take_72 : decode cX8_take 72 = .ok (.invokevirtual 130, 3) := by decide +kernel
theorem dX8_take_75 : decode cX8_take 75 = .ok (.aload_n 0, 1) := by decide +kernel
theorem dX8_take_76 : decode cX8_take 76 = .ok (.getfield 7, 3) := by decide +kernel
theorem dX8_take_79 : decode cX8_take 79 = .ok (.bipush 104, 2) := by decide +kernel
theorem dX8_take_81 : decode cX8_take 81 = .ok (.iload_n 1, 1) := by decide +kernel
theorem dX8_take_82 : decode cX8_take 82 = .ok (.iadd, 1) := by decide +kernel
theorem dX8_take_83 : decode cX8_take 83 = .ok (.iconst (-1), 1) := by decide +kernel
theorem dX8_take_84 : decode cX8_take 84 = .ok (.iastore, 1) := by decide +kernel
theorem dX8_take_85 : decode cX8_take 85 = .ok (.aload_n 0, 1) := by decide +kernel
theorem dX8_take_86 : decode cX8_take 86 = .ok (.aload_n 0, 1) := by decide +kernel
theorem dX8_take_87 : decode cX8_take 87 = .ok (.iconst 3, 1) := by decide +kernel
theorem dX8_take_88 : decode cX8_take 88 = .ok (.invokevirtual 124, 3) := by decide +kernel
theorem dX8_take_91 : decode cX8_take 91 = .ok (.invokevirtual 115, 3) := by decide +kernel
theorem dX8_take_94 : decode cX8_take 94 = .ok (.aload_n 0, 1) := by decide +kernel
theorem dX8_take_95 : decode cX8_take 95 = .ok (.invokevirtual 137, 3) := by decide +kernel
theorem dX8_take_98 : decode cX8_take 98 = .ok (.ireturn, 1) := by decide +kernel
theorem dX8_lay_0 : decode cX8_lay 0 = .ok (.aload_n 0, 1) := by decide +kernel
theorem dX8_lay_1 : decode cX8_lay 1 = .ok (.iload_n 1, 1) := by decide +kernel
theorem dX8_lay_2 : decode cX8_lay 2 = .ok (.invokevirtual 102, 3) := by decide +kernel
theorem dX8_lay_5 : decode cX8_lay 5 = .ok (.ifCond .ne 11, 3) := by decide +kernel
theorem dX8_lay_8 : decode cX8_lay 8 = .ok (.aload_n 0, 1) := by decide +kernel
theorem dX8_lay_9 : decode cX8_lay 9 = .ok (.iload_n 2, 1) := by decide +kernel
theorem dX8_lay_10 : decode cX8_lay 10 = .ok (.invokevirtual 99, 3) := by decide +kernel
theorem dX8_lay_13 : decode cX8_lay 13 = .ok (.ifCond .eq 5, 3) := by decide +kernel
theorem dX8_lay_16 : decode cX8_lay 16 = .ok (.iconst (-1), 1) := by decide +kernel
theorem dX8_lay_17 : decode cX8_lay 17 = .ok (.ireturn, 1) := by decide +kernel
theorem dX8_lay_18 : decode cX8_lay 18 = .ok (.aload_n 0, 1) := by decide +kernel
theorem dX8_lay_19 : decode cX8_lay 19 = .ok (.invokevirtual 105, 3) := by decide +kernel
theorem dX8_lay_22 : decode cX8_lay 22 = .ok (.ifCond .eq 27, 3) := by decide +kernel
theorem dX8_lay_25 : decode cX8_lay 25 = .ok (.aload_n 0, 1) := by decide +kernel
theorem dX8_lay_26 : decode cX8_lay 26 = .ok (.iload_n 1, 1) := by decide +kernel
theorem dX8_lay_27 : decode cX8_lay 27 = .ok (.invokevirtual 45, 3) := by decide +kernel
theorem dX8_lay_30 : decode cX8_lay 30 = .ok (.ifCond .eq 19, 3) := by decide +kernel
theorem dX8_lay_33 : decode cX8_lay 33 = .ok (.aload_n 0, 1) := by decide +kernel
theorem dX8_lay_34 : decode cX8_lay 34 = .ok (.iload_n 2, 1) := by decide +kernel
theorem dX8_lay_35 : decode cX8_lay 35 = .ok (.invokevirtual 34, 3) := by decide +kernel
theorem dX8_lay_38 : decode cX8_lay 38 = .ok (.ifCond .eq 11, 3) := by decide +kernel
theorem dX8_lay_41 : decode cX8_lay 41 = .ok (.aload_n 0, 1) := by decide +kernel
theorem dX8_lay_42 : decode cX8_lay 42 = .ok (.iload_n 2, 1) := by decide +kernel
theorem dX8_lay_43 : decode cX8_lay 43 = .ok (.invokevirtual 143, 3) := by decide +kernel
theorem dX8_lay_46 : decode cX8_lay 46 = .ok (.ifCond .ne 6, 3) := by decide +kernel
theorem dX8_lay_49 : decode cX8_lay 49 = .ok (.bipush (-4), 2) := by decide +kernel
theorem dX8_lay_51 : decode cX8_lay 51 = .ok (.ireturn, 1) := by decide +kernel
theorem dX8_lay_52 : decode cX8_lay 52 = .ok (.aload_n 0, 1) := by decide +kernel
theorem dX8_lay_53 : decode cX8_lay 53 = .ok (.aload_n 0, 1) := by decide +kernel
theorem dX8_lay_54 : decode cX8_lay 54 = .ok (.iconst 2, 1) := by decide +kernel
theorem dX8_lay_55 : decode cX8_lay 55 = .ok (.invokevirtual 124, 3) := by decide +kernel
theorem dX8_lay_58 : decode cX8_lay 58 = .ok (.invokevirtual 140, 3) := by decide +kernel
theorem dX8_lay_61 : decode cX8_lay 61 = .ok (.ifCond .eq 6, 3) := by decide +kernel
theorem dX8_lay_64 : decode cX8_lay 64 = .ok (.bipush (-6), 2) := by decide +kernel
theorem dX8_lay_66 : decode cX8_lay 66 = .ok (.ireturn, 1) := by decide +kernel
theorem dX8_lay_67 : decode cX8_lay 67 = .ok (.aload_n 0, 1) := by decide +kernel
theorem dX8_lay_68 : decode cX8_lay 68 = .ok (.iconst 1, 1) := by decide +kernel
theorem dX8_lay_69 : decode cX8_lay 69 = .ok (.iload_n 1, 1) := by decide +kernel
theorem dX8_lay_70 : decode cX8_lay 70 = .ok (.iload_n 2, 1) := by decide +kernel
theorem dX8_lay_71 : decode cX8_lay 71 = .ok (.invokevirtual 130, 3) := by decide +kernel
theorem dX8_lay_74 : decode cX8_lay 74 = .ok (.aload_n 0, 1) := by decide +kernel
theorem dX8_lay_75 : decode cX8_lay 75 = .ok (.getfield 7, 3) := by decide +kernel
theorem dX8_lay_78 : decode cX8_lay 78 = .ok (.bipush 104, 2) := by decide +kernel
theorem dX8_lay_80 : decode cX8_lay 80 = .ok (.iload_n 1, 1) := by decide +kernel
theorem dX8_lay_81 : decode cX8_lay 81 = .ok (.iadd, 1) := by decide +kernel
theorem dX8_lay_82 : decode cX8_lay 82 = .ok (.iload_n 2, 1) := by decide +kernel
theorem dX8_lay_83 : decode cX8_lay 83 = .ok (.iastore, 1) := by decide +kernel
theorem dX8_lay_84 : decode cX8_lay 84 = .ok (.aload_n 0, 1) := by decide +kernel
theorem dX8_lay_85 : decode cX8_lay 85 = .ok (.aload_n 0, 1) := by decide +kernel
theorem dX8_lay_86 : decode cX8_lay 86 = .ok (.iconst 2, 1) := by decide +kernel
theorem dX8_lay_87 : decode cX8_lay 87 = .ok (.invokevirtual 124, 3) := by decide +kernel
theorem dX8_lay_90 : decode cX8_lay 90 = .ok (.invokevirtual 115, 3) := by decide +kernel
theorem dX8_lay_93 : decode cX8_lay 93 = .ok (.aload_n 0, 1) := by decide +kernel
theorem dX8_lay_94 : decode cX8_lay 94 = .ok (.invokevirtual 137, 3) := by decide +kernel
theorem dX8_lay_97 : decode cX8_lay 97 = .ok (.ireturn, 1) := by decide +kernel
theorem dX8_lets_0 : decode cX8_lets 0 = .ok (.aload_n 0, 1) := by decide +kernel
theorem dX8_lets_1 : decode cX8_lets 1 = .ok (.getfield 7, 3) := by decide +kernel
theorem dX8_lets_4 : decode cX8_lets 4 = .ok (.bipush 32, 2) := by decide +kernel
theorem dX8_lets_6 : decode cX8_lets 6 = .ok (.iload_n 1, 1) := by decide +kernel
theorem dX8_lets_7 : decode cX8_lets 7 = .ok (.iadd, 1) := by decide +kernel
theorem dX8_lets_8 : decode cX8_lets 8 = .ok (.iaload, 1) := by decide +kernel
theorem dX8_lets_9 : decode cX8_lets 9 = .ok (.istore_n 2, 1) := by decide +kernel
theorem dX8_lets_10 : decode cX8_lets 10 = .ok (.aload_n 0, 1) := by decide +kernel
theorem dX8_lets_11 : decode cX8_lets 11 = .ok (.getfield 7, 3) := by decide +kernel
theorem dX8_lets_14 : decode cX8_lets 14 = .ok (.bipush 44, 2) := by decide +kernel
theorem dX8_lets_16 : decode cX8_lets 16 = .ok (.iload_n 1, 1) := by decide +kernel
theorem dX8_lets_17 : decode cX8_lets 17 = .ok (.iadd, 1) := by decide +kernel
theorem dX8_lets_18 : decode cX8_lets 18 = .ok (.iaload, 1) := by decide +kernel
theorem dX8_lets_19 : decode cX8_lets 19 = .ok (.istore_n 3, 1) := by decide +kernel
theorem dX8_lets_20 : decode cX8_lets 20 = .ok (.iload_n 2, 1) := by decide +kernel
theorem dX8_lets_21 : decode cX8_lets 21 = .ok (.ifCond .eq 45, 3) := by decide +kernel
theorem dX8_lets_24 : decode cX8_lets 24 = .ok (.iload_n 2, 1) := by decide +kernel
theorem dX8_lets_25 : decode cX8_lets 25 = .ok (.iconst 2, 1) := by decide +kernel
theorem dX8_lets_26 : decode cX8_lets 26 = .ok (.if_icmp .eq 40, 3) := by decide +kernel
theorem dX8_lets_29 : decode cX8_lets 29 = .ok (.iload_n 2, 1) := by decide +kernel
theorem dX8_lets_30 : decode cX8_lets 30 = .ok (.iconst 1, 1) := by decide +kernel
theorem dX8_lets_31 : decode cX8_lets 31 = .ok (.if_icmp .ne 14, 3) := by decide +kernel
theorem dX8_lets_34 : decode cX8_lets 34 = .ok (.aload_n 0, 1) := by decide +kernel
theorem dX8_lets_35 : decode cX8_lets 35 = .ok (.iload_n 3, 1) := by decide +kernel
theorem dX8_lets_36 : decode cX8_lets 36 = .ok (.invokevirtual 45, 3) := by decide +kernel
theorem dX8_lets_39 : decode cX8_lets 39 = .ok (.ifCond .eq 31, 3) := by decide +kernel
theorem dX8_lets_42 : decode cX8_lets 42 = .ok (.goto 24, 3) := by decide +kernel
theorem dX8_lets_45 : decode cX8_lets 45 = .ok (.aload_n 0, 1) := by decide +kernel
theorem dX8_lets_46 : decode cX8_lets 46 = .ok (.getfield 7, 3) := by decide +kernel
theorem dX8_lets_49 : decode cX8_lets 49 = .ok (.bipush 104, 2) := by decide +kernel
theorem dX8_lets_51 : decode cX8_lets 51 = .ok (.iload_n 3, 1) := by decide +kernel
theorem dX8_lets_52 : decode cX8_lets 52 = .ok (.iadd, 1) := by decide +kernel
theorem dX8_lets_53 : decode cX8_lets 53 = .ok (.iaload, 1) := by decide +kernel
theorem dX8_lets_54 : decode cX8_lets 54 = .ok (.aload_n 0, 1) := by decide +kernel
theorem dX8_lets_55 : decode cX8_lets 55 = .ok (.getfield 7, 3) := by decide +kernel
theorem dX8_lets_58 : decode cX8_lets 58 = .ok (.bipush 20, 2) := by decide +kernel
theorem dX8_lets_60 : decode cX8_lets 60 = .ok (.iload_n 1, 1) := by decide +kernel
theorem dX8_lets_61 : decode cX8_lets 61 = .ok (.iadd, 1) := by decide +kernel
theorem dX8_lets_62 : decode cX8_lets 62 = .ok (.iaload, 1) := by decide +kernel
theorem dX8_lets_63 : decode cX8_lets 63 = .ok (.if_icmp .ne 7, 3) := by decide +kernel
theorem dX8_lets_66 : decode cX8_lets 66 = .ok (.iconst 1, 1) := by decide +kernel
theorem dX8_lets_67 : decode cX8_lets 67 = .ok (.goto 4, 3) := by decide +kernel
theorem dX8_lets_70 : decode cX8_lets 70 = .ok (.iconst 0, 1) := by decide +kernel
theorem dX8_lets_71 : decode cX8_lets 71 = .ok (.ireturn, 1) := by decide +kernel
theorem dX8_open_0 : decode cX8_open 0 = .ok (.aload_n 0, 1) := by decide +kernel
theorem dX8_open_1 : decode cX8_open 1 = .ok (.iload_n 1, 1) := by decide +kernel
theorem dX8_open_2 : decode cX8_open 2 = .ok (.invokevirtual 99, 3) := by decide +kernel
theorem dX8_open_5 : decode cX8_open 5 = .ok (.ifCond .eq 5, 3) := by decide +kernel
theorem dX8_open_8 : decode cX8_open 8 = .ok (.iconst (-1), 1) := by decide +kernel
theorem dX8_open_9 : decode cX8_open 9 = .ok (.ireturn, 1) := by decide +kernel
theorem dX8_open_10 : decode cX8_open 10 = .ok (.aload_n 0, 1) := by decide +kernel
theorem dX8_open_11 : decode cX8_open 11 = .ok (.invokevirtual 105, 3) := by decide +kernel
theorem dX8_open_14 : decode cX8_open 14 = .ok (.ifCond .eq 27, 3) := by decide +kernel
theorem dX8_open_17 : decode cX8_open 17 = .ok (.aload_n 0, 1) := by decide +kernel
theorem dX8_open_18 : decode cX8_open 18 = .ok (.iload_n 1, 1) := by decide +kernel
theorem dX8_open_19 : decode cX8_open 19 = .ok (.invokevirtual 34, 3) := by decide +kernel
theorem dX8_open_22 : decode cX8_open 22 = .ok (.ifCond .ne 19, 3) := by decide +kernel
theorem dX8_open_25 : decode cX8_open 25 = .ok (.aload_n 0, 1) := by decide +kernel
theorem dX8_open_26 : decode cX8_open 26 = .ok (.iload_n 1, 1) := by decide +kernel
theorem dX8_open_27 : decode cX8_open 27 = .ok (.invokevirtual 143, 3) := by decide +kernel
theorem dX8_open_30 : decode cX8_open 30 = .ok (.ifCond .eq 11, 3) := by decide +kernel
theorem dX8_open_33 : decode cX8_open 33 = .ok (.aload_n 0, 1) := by decide +kernel
theorem dX8_open_34 : decode cX8_open 34 = .ok (.iload_n 1, 1) := by decide +kernel
theorem dX8_open_35 : decode cX8_open 35 = .ok (.invokevirtual 146, 3) := by decide +kernel
theorem dX8_open_38 : decode cX8_open 38 = .ok (.ifCond .ne 6, 3) := by decide +kernel
theorem dX8_open_41 : decode cX8_open 41 = .ok (.bipush (-4), 2) := by decide +kernel
theorem dX8_open_43 : decode cX8_open 43 = .ok (.ireturn, 1) := by decide +kernel
theorem dX8_open_44 : decode cX8_open 44 = .ok (.aload_n 0, 1) := by decide +kernel
theorem dX8_open_45 : decode cX8_open 45 = .ok (.getfield 7, 3) := by decide +kernel
theorem dX8_open_48 : decode cX8_open 48 = .ok (.bipush 32, 2) := by decide +kernel
theorem dX8_open_50 : decode cX8_open 50 = .ok (.iload_n 1, 1) := by decide +kernel
theorem dX8_open_51 : decode cX8_open 51 = .ok (.iadd, 1) := by decide +kernel
theorem dX8_open_52 : decode cX8_open 52 = .ok (.iaload, 1) := by decide +kernel
theorem dX8_open_53 : decode cX8_open 53 = .ok (.iconst 2, 1) := by decide +kernel
theorem dX8_open_54 : decode cX8_open 54 = .ok (.if_icmp .ne 16, 3) := by decide +kernel
theorem dX8_open_57 : decode cX8_open 57 = .ok (.aload_n 0, 1) := by decide +kernel
theorem dX8_open_58 : decode cX8_open 58 = .ok (.getfield 7, 3) := by decide +kernel
theorem dX8_open_61 : decode cX8_open 61 = .ok (.bipush 44, 2) := by decide +kernel
theorem dX8_open_63 : decode cX8_open 63 = .ok (.iload_n 1, 1) := by decide +kernel
theorem dX8_open_64 : decode cX8_open 64 = .ok (.iadd, 1) := by decide +kernel
theorem dX8_open_65 : decode cX8_open 65 = .ok (.iaload, 1) := by decide +kernel
theorem dX8_open_66 : decode cX8_open 66 = .ok (.iload_n 2, 1) := by decide +kernel
theorem dX8_open_67 : decode cX8_open 67 = .ok (.if_icmp .ne 7, 3) := by decide +kernel
theorem dX8_open_70 : decode cX8_open 70 = .ok (.iconst 1, 1) := by decide +kernel
theorem dX8_open_71 : decode cX8_open 71 = .ok (.goto 4, 3) := by decide +kernel
theorem dX8_open_74 : decode cX8_open 74 = .ok (.iconst 0, 1) := by decide +kernel
theorem dX8_open_75 : decode cX8_open 75 = .ok (.istore_n 3, 1) := by decide +kernel
theorem dX8_open_76 : decode cX8_open 76 = .ok (.iload_n 3, 1) := by decide +kernel
theorem dX8_open_77 : decode cX8_open 77 = .ok (.ifCond .eq 11, 3) := by decide +kernel
theorem dX8_open_80 : decode cX8_open 80 = .ok (.aload_n 0, 1) := by decide +kernel
theorem dX8_open_81 : decode cX8_open 81 = .ok (.iconst 4, 1) := by decide +kernel
theorem dX8_open_82 : decode cX8_open 82 = .ok (.invokevirtual 124, 3) := by decide +kernel
theorem dX8_open_85 : decode cX8_open 85 = .ok (.goto 10, 3) := by decide +kernel
theorem dX8_open_88 : decode cX8_open 88 = .ok (.iconst 2, 1) := by decide +kernel
theorem dX8_open_89 : decode cX8_open 89 = .ok (.aload_n 0, 1) := by decide +kernel
theorem dX8_open_90 : decode cX8_open 90 = .ok (.iconst 4, 1) := by decide +kernel
theorem dX8_open_91 : decode cX8_open 91 = .ok (.invokevirtual 124, 3) := by decide +kernel
theorem dX8_open_94 : decode cX8_open 94 = .ok (.imul, 1) := by decide +kernel
theorem dX8_open_95 : decode cX8_open 95 = .ok (.istore 4, 2) := by decide +kernel
theorem dX8_open_97 : decode cX8_open 97 = .ok (.aload_n 0, 1) := by decide +kernel
theorem dX8_open_98 : decode cX8_open 98 = .ok (.iload 4, 2) := by decide +kernel
theorem dX8_open_100 : decode cX8_open 100 = .ok (.invokevirtual 140, 3) := by decide +kernel
theorem dX8_open_103 : decode cX8_open 103 = .ok (.ifCond .eq 6, 3) := by decide +kernel
theorem dX8_open_106 : decode cX8_open 106 = .ok (.bipush (-6), 2) := by decide +kernel
theorem dX8_open_108 : decode cX8_open 108 = .ok (.ireturn, 1) := by decide +kernel
theorem dX8_open_109 : decode cX8_open 109 = .ok (.aload_n 0, 1) := by decide +kernel
theorem dX8_open_110 : decode cX8_open 110 = .ok (.iconst 2, 1) := by decide +kernel
theorem dX8_open_111 : decode cX8_open 111 = .ok (.iload_n 1, 1) := by decide +kernel
theorem dX8_open_112 : decode cX8_open 112 = .ok (.iconst 0, 1) := by decide +kernel
theorem dX8_open_113 : decode cX8_open 113 = .ok (.invokevirtual 130, 3) := by decide +kernel
theorem dX8_open_116 : decode cX8_open 116 = .ok (.aload_n 0, 1) := by decide +kernel
theorem dX8_open_117 : decode cX8_open 117 = .ok (.getfield 7, 3) := by decide +kernel
theorem dX8_open_120 : decode cX8_open 120 = .ok (.bipush 56, 2) := by decide +kernel
theorem dX8_open_122 : decode cX8_open 122 = .ok (.iload_n 1, 1) := by decide +kernel
theorem dX8_open_123 : decode cX8_open 123 = .ok (.iadd, 1) := by decide +kernel
theorem dX8_open_124 : decode cX8_open 124 = .ok (.iload_n 3, 1) := by decide +kernel
theorem dX8_open_125 : decode cX8_open 125 = .ok (.ifCond .eq 7, 3) := by decide +kernel
theorem dX8_open_128 : decode cX8_open 128 = .ok (.iconst 1, 1) := by decide +kernel
theorem dX8_open_129 : decode cX8_open 129 = .ok (.goto 4, 3) := by decide +kernel
theorem dX8_open_132 : decode cX8_open 132 = .ok (.iconst 0, 1) := by decide +kernel
theorem dX8_open_133 : decode cX8_open 133 = .ok (.iastore, 1) := by decide +kernel
theorem dX8_open_134 : decode cX8_open 134 = .ok (.aload_n 0, 1) := by decide +kernel
theorem dX8_open_135 : decode cX8_open 135 = .ok (.getfield 7, 3) := by decide +kernel
theorem dX8_open_138 : decode cX8_open 138 = .ok (.bipush 15, 2) := by decide +kernel
theorem dX8_open_140 : decode cX8_open 140 = .ok (.dup2, 1) := by decide +kernel
theorem dX8_open_141 : decode cX8_open 141 = .ok (.iaload, 1) := by decide +kernel
theorem dX8_open_142 : decode cX8_open 142 = .ok (.iload_n 3, 1) := by decide +kernel
theorem dX8_open_143 : decode cX8_open 143 = .ok (.ifCond .eq 7, 3) := by decide +kernel
theorem dX8_open_146 : decode cX8_open 146 = .ok (.iconst 0, 1) := by decide +kernel
theorem dX8_open_147 : decode cX8_open 147 = .ok (.goto 4, 3) := by decide +kernel
theorem dX8_open_150 : decode cX8_open 150 = .ok (.iconst 1, 1) := by decide +kernel
theorem dX8_open_151 : decode cX8_open 151 = .ok (.iadd, 1) := by decide +kernel
theorem dX8_open_152 : decode cX8_open 152 = .ok (.iastore, 1) := by decide +kernel
theorem dX8_open_153 : decode cX8_open 153 = .ok (.aload_n 0, 1) := by decide +kernel
theorem dX8_open_154 : decode cX8_open 154 = .ok (.iload 4, 2) := by decide +kernel
theorem dX8_open_156 : decode cX8_open 156 = .ok (.invokevirtual 115, 3) := by decide +kernel
theorem dX8_open_159 : decode cX8_open 159 = .ok (.iload_n 3, 1) := by decide +kernel
theorem dX8_open_160 : decode cX8_open 160 = .ok (.ifCond .eq 20, 3) := by decide +kernel
theorem dX8_open_163 : decode cX8_open 163 = .ok (.iload_n 1, 1) := by decide +kernel
theorem dX8_open_164 : decode cX8_open 164 = .ok (.aload_n 0, 1) := by decide +kernel
theorem dX8_open_165 : decode cX8_open 165 = .ok (.getfield 7, 3) := by decide +kernel
theorem dX8_open_168 : decode cX8_open 168 = .ok (.iconst 5, 1) := by decide +kernel
theorem dX8_open_169 : decode cX8_open 169 = .ok (.iaload, 1) := by decide +kernel
theorem dX8_open_170 : decode cX8_open 170 = .ok (.if_icmp .ne 10, 3) := by decide +kernel
theorem dX8_open_173 : decode cX8_open 173 = .ok (.aload_n 0, 1) := by decide +kernel
theorem dX8_open_174 : decode cX8_open 174 = .ok (.iconst 1, 1) := by decide +kernel
theorem dX8_open_175 : decode cX8_open 175 = .ok (.invokevirtual 134, 3) := by decide +kernel
theorem dX8_open_178 : decode cX8_open 178 = .ok (.iconst 2, 1) := by decide +kernel
theorem dX8_open_179 : decode cX8_open 179 = .ok (.ireturn, 1) := by decide +kernel
theorem dX8_open_180 : decode cX8_open 180 = .ok (.iload_n 3, 1) := by decide +kernel
theorem dX8_open_181 : decode cX8_open 181 = .ok (.ifCond .eq 7, 3) := by decide +kernel
theorem dX8_open_184 : decode cX8_open 184 = .ok (.iconst 1, 1) := by decide +kernel
theorem dX8_open_185 : decode cX8_open 185 = .ok (.goto 4, 3) := by decide +kernel
theorem dX8_open_188 : decode cX8_open 188 = .ok (.iconst 0, 1) := by decide +kernel
theorem dX8_open_189 : decode cX8_open 189 = .ok (.ireturn, 1) := by decide +kernel
theorem dX8_learn_0 : decode cX8_learn 0 = .ok (.aload_n 0, 1) := by decide +kernel
theorem dX8_learn_1 : decode cX8_learn 1 = .ok (.getfield 7, 3) := by decide +kernel
theorem dX8_learn_4 : decode cX8_learn 4 = .ok (.bipush 68, 2) := by decide +kernel
theorem dX8_learn_6 : decode cX8_learn 6 = .ok (.aload_n 0, 1) := by decide +kernel
theorem dX8_learn_7 : decode cX8_learn 7 = .ok (.getfield 7, 3) := by decide +kernel
theorem dX8_learn_10 : decode cX8_learn 10 = .ok (.sipush 140, 3) := by decide +kernel
theorem dX8_learn_13 : decode cX8_learn 13 = .ok (.iload_n 1, 1) := by decide +kernel
theorem dX8_learn_14 : decode cX8_learn 14 = .ok (.iadd, 1) := by decide +kernel
theorem dX8_learn_15 : decode cX8_learn 15 = .ok (.iaload, 1) := by decide +kernel
theorem dX8_learn_16 : decode cX8_learn 16 = .ok (.iadd, 1) := by decide +kernel
theorem dX8_learn_17 : decode cX8_learn 17 = .ok (.dup2, 1) := by decide +kernel
theorem dX8_learn_18 : decode cX8_learn 18 = .ok (.iaload, 1) := by decide +kernel
theorem dX8_learn_19 : decode cX8_learn 19 = .ok (.iconst 1, 1) := by decide +kernel
theorem dX8_learn_20 : decode cX8_learn 20 = .ok (.aload_n 0, 1) := by decide +kernel
theorem dX8_learn_21 : decode cX8_learn 21 = .ok (.getfield 7, 3) := by decide +kernel
theorem dX8_learn_24 : decode cX8_learn 24 = .ok (.sipush 152, 3) := by decide +kernel
theorem dX8_learn_27 : decode cX8_learn 27 = .ok (.iload_n 1, 1) := by decide +kernel
theorem dX8_learn_28 : decode cX8_learn 28 = .ok (.iadd, 1) := by decide +kernel
theorem dX8_learn_29 : decode cX8_learn 29 = .ok (.iaload, 1) := by decide +kernel
theorem dX8_learn_30 : decode cX8_learn 30 = .ok (.ishl, 1) := by decide +kernel
theorem dX8_learn_31 : decode cX8_learn 31 = .ok (.ior, 1) := by decide +kernel
theorem dX8_learn_32 : decode cX8_learn 32 = .ok (.iastore, 1) := by decide +kernel
theorem dX8_learn_33 : decode cX8_learn 33 = .ok (.return_, 1) := by decide +kernel
theorem dX8_read_0 : decode cX8_read 0 = .ok (.aload_n 0, 1) := by decide +kernel
theorem dX8_read_1 : decode cX8_read 1 = .ok (.iload_n 1, 1) := by decide +kernel
theorem dX8_read_2 : decode cX8_read 2 = .ok (.invokevirtual 149, 3) := by decide +kernel
theorem dX8_read_5 : decode cX8_read 5 = .ok (.ifCond .eq 5, 3) := by decide +kernel
theorem dX8_read_8 : decode cX8_read 8 = .ok (.iconst (-1), 1) := by decide +kernel
theorem dX8_read_9 : decode cX8_read 9 = .ok (.ireturn, 1) := by decide +kernel
theorem dX8_read_10 : decode cX8_read 10 = .ok (.aload_n 0, 1) := by decide +kernel
theorem dX8_read_11 : decode cX8_read 11 = .ok (.invokevirtual 105, 3) := by decide +kernel
theorem dX8_read_14 : decode cX8_read 14 = .ok (.ifCond .eq 11, 3) := by decide +kernel
theorem dX8_read_17 : decode cX8_read 17 = .ok (.aload_n 0, 1) := by decide +kernel
theorem dX8_read_18 : decode cX8_read 18 = .ok (.iload_n 1, 1) := by decide +kernel
theorem dX8_read_19 : decode cX8_read 19 = .ok (.invokevirtual 51, 3) := by decide +kernel
theorem dX8_read_22 : decode cX8_read 22 = .ok (.ifCond .ne 6, 3) := by decide +kernel
theorem dX8_read_25 : decode cX8_read 25 = .ok (.bipush (-4), 2) := by decide +kernel
theorem dX8_read_27 : decode cX8_read 27 = .ok (.ireturn, 1) := by decide +kernel
theorem dX8_read_28 : decode cX8_read 28 = .ok (.aload_n 0, 1) := by decide +kernel
theorem dX8_read_29 : decode cX8_read 29 = .ok (.getfield 7, 3) := by decide +kernel
theorem dX8_read_32 : decode cX8_read 32 = .ok (.sipush 164, 3) := by decide +kernel
theorem dX8_read_35 : decode cX8_read 35 = .ok (.iload_n 1, 1) := by decide +kernel
theorem dX8_read_36 : decode cX8_read 36 = .ok (.iadd, 1) := by decide +kernel
theorem dX8_read_37 : decode cX8_read 37 = .ok (.iaload, 1) := by decide +kernel
theorem dX8_read_38 : decode cX8_read 38 = .ok (.ifCond .ne 6, 3) := by decide +kernel
theorem dX8_read_41 : decode cX8_read 41 = .ok (.bipush (-5), 2) := by decide +kernel
theorem dX8_read_43 : decode cX8_read 43 = .ok (.ireturn, 1) := by decide +kernel
theorem dX8_read_44 : decode cX8_read 44 = .ok (.aload_n 0, 1) := by decide +kernel
theorem dX8_read_45 : decode cX8_read 45 = .ok (.iload_n 1, 1) := by decide +kernel
theorem dX8_read_46 : decode cX8_read 46 = .ok (.invokevirtual 152, 3) := by decide +kernel
theorem dX8_read_49 : decode cX8_read 49 = .ok (.istore_n 2, 1) := by decide +kernel
theorem dX8_read_50 : decode cX8_read 50 = .ok (.aload_n 0, 1) := by decide +kernel
theorem dX8_read_51 : decode cX8_read 51 = .ok (.iload_n 2, 1) := by decide +kernel
theorem dX8_read_52 : decode cX8_read 52 = .ok (.invokevirtual 140, 3) := by decide +kernel
theorem dX8_read_55 : decode cX8_read 55 = .ok (.ifCond .eq 6, 3) := by decide +kernel
theorem dX8_read_58 : decode cX8_read 58 = .ok (.bipush (-6), 2) := by decide +kernel
theorem dX8_read_60 : decode cX8_read 60 = .ok (.ireturn, 1) := by decide +kernel
theorem dX8_read_61 : decode cX8_read 61 = .ok (.aload_n 0, 1) := by decide +kernel
theorem dX8_read_62 : decode cX8_read 62 = .ok (.iconst 3, 1) := by decide +kernel
theorem dX8_read_63 : decode cX8_read 63 = .ok (.iload_n 1, 1) := by decide +kernel
theorem dX8_read_64 : decode cX8_read 64 = .ok (.iconst 0, 1) := by decide +kernel
theorem dX8_read_65 : decode cX8_read 65 = .ok (.invokevirtual 130, 3) := by decide +kernel
theorem dX8_read_68 : decode cX8_read 68 = .ok (.aload_n 0, 1) := by decide +kernel
theorem dX8_read_69 : decode cX8_read 69 = .ok (.iload_n 1, 1) := by decide +kernel
theorem dX8_read_70 : decode cX8_read 70 = .ok (.invokevirtual 155, 3) := by decide +kernel
theorem dX8_read_73 : decode cX8_read 73 = .ok (.aload_n 0, 1) := by decide +kernel
theorem dX8_read_74 : decode cX8_read 74 = .ok (.getfield 7, 3) := by decide +kernel
theorem dX8_read_77 : decode cX8_read 77 = .ok (.sipush 164, 3) := by decide +kernel
theorem dX8_read_80 : decode cX8_read 80 = .ok (.iload_n 1, 1) := by decide +kernel
theorem dX8_read_81 : decode cX8_read 81 = .ok (.iadd, 1) := by decide +kernel
theorem dX8_read_82 : decode cX8_read 82 = .ok (.dup2, 1) := by decide +kernel
theorem dX8_read_83 : decode cX8_read 83 = .ok (.iaload, 1) := by decide +kernel
theorem dX8_read_84 : decode cX8_read 84 = .ok (.iconst 1, 1) := by decide +kernel
theorem dX8_read_85 : decode cX8_read 85 = .ok (.isub, 1) := by decide +kernel
theorem dX8_read_86 : decode cX8_read 86 = .ok (.iastore, 1) := by decide +kernel
theorem dX8_read_87 : decode cX8_read 87 = .ok (.aload_n 0, 1) := by decide +kernel
theorem dX8_read_88 : decode cX8_read 88 = .ok (.iload_n 2, 1) := by decide +kernel
theorem dX8_read_89 : decode cX8_read 89 = .ok (.invokevirtual 115, 3) := by decide +kernel
theorem dX8_read_92 : decode cX8_read 92 = .ok (.aload_n 0, 1) := by decide +kernel
theorem dX8_read_93 : decode cX8_read 93 = .ok (.iload_n 1, 1) := by decide +kernel
theorem dX8_read_94 : decode cX8_read 94 = .ok (.invokevirtual 158, 3) := by decide +kernel
theorem dX8_read_97 : decode cX8_read 97 = .ok (.ireturn, 1) := by decide +kernel
theorem dX8_rest_0 : decode cX8_rest 0 = .ok (.iload_n 1, 1) := by decide +kernel
theorem dX8_rest_1 : decode cX8_rest 1 = .ok (.iconst 1, 1) := by decide +kernel
theorem dX8_rest_2 : decode cX8_rest 2 = .ok (.bipush 60, 2) := by decide +kernel
theorem dX8_rest_4 : decode cX8_rest 4 = .ok (.invokestatic 30, 3) := by decide +kernel
theorem dX8_rest_7 : decode cX8_rest 7 = .ok (.ifCond .ne 6, 3) := by decide +kernel
theorem dX8_rest_10 : decode cX8_rest 10 = .ok (.bipush (-2), 2) := by decide +kernel
theorem dX8_rest_12 : decode cX8_rest 12 = .ok (.ireturn, 1) := by decide +kernel
theorem dX8_rest_13 : decode cX8_rest 13 = .ok (.aload_n 0, 1) := by decide +kernel
theorem dX8_rest_14 : decode cX8_rest 14 = .ok (.invokevirtual 105, 3) := by decide +kernel
theorem dX8_rest_17 : decode cX8_rest 17 = .ok (.ifCond .ne 6, 3) := by decide +kernel
theorem dX8_rest_20 : decode cX8_rest 20 = .ok (.bipush (-4), 2) := by decide +kernel
theorem dX8_rest_22 : decode cX8_rest 22 = .ok (.ireturn, 1) := by decide +kernel
theorem dX8_rest_23 : decode cX8_rest 23 = .ok (.aload_n 0, 1) := by decide +kernel
theorem dX8_rest_24 : decode cX8_rest 24 = .ok (.iload_n 1, 1) := by decide +kernel
theorem dX8_rest_25 : decode cX8_rest 25 = .ok (.invokevirtual 140, 3) := by decide +kernel
theorem dX8_rest_28 : decode cX8_rest 28 = .ok (.ifCond .eq 6, 3) := by decide +kernel
theorem dX8_rest_31 : decode cX8_rest 31 = .ok (.bipush (-6), 2) := by decide +kernel
theorem dX8_rest_33 : decode cX8_rest 33 = .ok (.ireturn, 1) := by decide +kernel
theorem dX8_rest_34 : decode cX8_rest 34 = .ok (.aload_n 0, 1) := by decide +kernel
end
section
theorem dX8_rest_35 : decode cX8_rest 35 = .ok (.iconst 5, 1) := by decide +kernel
theorem dX8_rest_36 : decode cX8_rest 36 = .ok (.iload_n 1, 1) := by decide +kernel
theorem dX8_rest_37 : decode cX8_rest 37 = .ok (.iconst 0, 1) := by decide +kernel
theorem dX8_rest_38 : decode cX8_rest 38 = .ok (.invokevirtual 130, 3) := by decide +kernel
theorem dX8_rest_41 : decode cX8_rest 41 = .ok (.aload_n 0, 1) := by decide +kernel
theorem dX8_rest_42 : decode cX8_rest 42 = .ok (.iload_n 1, 1) := by decide +kernel
theorem dX8_rest_43 : decode cX8_rest 43 = .ok (.invokevirtual 115, 3) := by decide +kernel
theorem dX8_rest_46 : decode cX8_rest 46 = .ok (.aload_n 0, 1) := by decide +kernel
theorem dX8_rest_47 : decode cX8_rest 47 = .ok (.invokevirtual 127, 3) := by decide +kernel
theorem dX8_rest_50 : decode cX8_rest 50 = .ok (.ireturn, 1) := by decide +kernel
theorem dX8_clueFor_0 : decode cX8_clueFor 0 = .ok (.bipush (-5), 2) := by decide +kernel
theorem dX8_clueFor_2 : decode cX8_clueFor 2 = .ok (.istore 4, 2) := by decide +kernel
theorem dX8_clueFor_4 : decode cX8_clueFor 4 = .ok (.aload_n 0, 1) := by decide +kernel
theorem dX8_clueFor_5 : decode cX8_clueFor 5 = .ok (.getfield 7, 3) := by decide +kernel
theorem dX8_clueFor_8 : decode cX8_clueFor 8 = .ok (.iconst 2, 1) := by decide +kernel
theorem dX8_clueFor_9 : decode cX8_clueFor 9 = .ok (.iaload, 1) := by decide +kernel
theorem dX8_clueFor_10 : decode cX8_clueFor 10 = .ok (.iconst 1, 1) := by decide +kernel
theorem dX8_clueFor_11 : decode cX8_clueFor 11 = .ok (.isub, 1) := by decide +kernel
theorem dX8_clueFor_12 : decode cX8_clueFor 12 = .ok (.istore 5, 2) := by decide +kernel
theorem dX8_clueFor_14 : decode cX8_clueFor 14 = .ok (.iload 5, 2) := by decide +kernel
theorem dX8_clueFor_16 : decode cX8_clueFor 16 = .ok (.ifCond .lt 118, 3) := by decide +kernel
theorem dX8_clueFor_19 : decode cX8_clueFor 19 = .ok (.aload_n 0, 1) := by decide +kernel
theorem dX8_clueFor_20 : decode cX8_clueFor 20 = .ok (.getfield 7, 3) := by decide +kernel
theorem dX8_clueFor_23 : decode cX8_clueFor 23 = .ok (.sipush 140, 3) := by decide +kernel
theorem dX8_clueFor_26 : decode cX8_clueFor 26 = .ok (.iload 5, 2) := by decide +kernel
theorem dX8_clueFor_28 : decode cX8_clueFor 28 = .ok (.iadd, 1) := by decide +kernel
theorem dX8_clueFor_29 : decode cX8_clueFor 29 = .ok (.iaload, 1) := by decide +kernel
theorem dX8_clueFor_30 : decode cX8_clueFor 30 = .ok (.iload_n 1, 1) := by decide +kernel
theorem dX8_clueFor_31 : decode cX8_clueFor 31 = .ok (.if_icmp .ne 46, 3) := by decide +kernel
theorem dX8_clueFor_34 : decode cX8_clueFor 34 = .ok (.aload_n 0, 1) := by decide +kernel
theorem dX8_clueFor_35 : decode cX8_clueFor 35 = .ok (.getfield 7, 3) := by decide +kernel
theorem dX8_clueFor_38 : decode cX8_clueFor 38 = .ok (.sipush 152, 3) := by decide +kernel
theorem dX8_clueFor_41 : decode cX8_clueFor 41 = .ok (.iload 5, 2) := by decide +kernel
theorem dX8_clueFor_43 : decode cX8_clueFor 43 = .ok (.iadd, 1) := by decide +kernel
theorem dX8_clueFor_44 : decode cX8_clueFor 44 = .ok (.iaload, 1) := by decide +kernel
theorem dX8_clueFor_45 : decode cX8_clueFor 45 = .ok (.iload_n 2, 1) := by decide +kernel
theorem dX8_clueFor_46 : decode cX8_clueFor 46 = .ok (.if_icmp .ne 31, 3) := by decide +kernel
theorem dX8_clueFor_49 : decode cX8_clueFor 49 = .ok (.aload_n 0, 1) := by decide +kernel
theorem dX8_clueFor_50 : decode cX8_clueFor 50 = .ok (.getfield 7, 3) := by decide +kernel
theorem dX8_clueFor_53 : decode cX8_clueFor 53 = .ok (.sipush 164, 3) := by decide +kernel
theorem dX8_clueFor_56 : decode cX8_clueFor 56 = .ok (.iload 5, 2) := by decide +kernel
theorem dX8_clueFor_58 : decode cX8_clueFor 58 = .ok (.iadd, 1) := by decide +kernel
theorem dX8_clueFor_59 : decode cX8_clueFor 59 = .ok (.iaload, 1) := by decide +kernel
theorem dX8_clueFor_60 : decode cX8_clueFor 60 = .ok (.ifCond .le 17, 3) := by decide +kernel
theorem dX8_clueFor_63 : decode cX8_clueFor 63 = .ok (.aload_n 0, 1) := by decide +kernel
theorem dX8_clueFor_64 : decode cX8_clueFor 64 = .ok (.iload 5, 2) := by decide +kernel
theorem dX8_clueFor_66 : decode cX8_clueFor 66 = .ok (.invokevirtual 51, 3) := by decide +kernel
theorem dX8_clueFor_69 : decode cX8_clueFor 69 = .ok (.iload_n 3, 1) := by decide +kernel
theorem dX8_clueFor_70 : decode cX8_clueFor 70 = .ok (.if_icmp .ne 7, 3) := by decide +kernel
theorem dX8_clueFor_73 : decode cX8_clueFor 73 = .ok (.iconst 1, 1) := by decide +kernel
theorem dX8_clueFor_74 : decode cX8_clueFor 74 = .ok (.goto 4, 3) := by decide +kernel
theorem dX8_clueFor_77 : decode cX8_clueFor 77 = .ok (.iconst 0, 1) := by decide +kernel
theorem dX8_clueFor_78 : decode cX8_clueFor 78 = .ok (.istore 6, 2) := by decide +kernel
theorem dX8_clueFor_80 : decode cX8_clueFor 80 = .ok (.iload 6, 2) := by decide +kernel
theorem dX8_clueFor_82 : decode cX8_clueFor 82 = .ok (.ifCond .eq 42, 3) := by decide +kernel
theorem dX8_clueFor_85 : decode cX8_clueFor 85 = .ok (.iload 4, 2) := by decide +kernel
theorem dX8_clueFor_87 : decode cX8_clueFor 87 = .ok (.ifCond .lt 32, 3) := by decide +kernel
theorem dX8_clueFor_90 : decode cX8_clueFor 90 = .ok (.iload_n 3, 1) := by decide +kernel
theorem dX8_clueFor_91 : decode cX8_clueFor 91 = .ok (.ifCond .eq 28, 3) := by decide +kernel
theorem dX8_clueFor_94 : decode cX8_clueFor 94 = .ok (.aload_n 0, 1) := by decide +kernel
theorem dX8_clueFor_95 : decode cX8_clueFor 95 = .ok (.getfield 7, 3) := by decide +kernel
theorem dX8_clueFor_98 : decode cX8_clueFor 98 = .ok (.sipush 164, 3) := by decide +kernel
theorem dX8_clueFor_101 : decode cX8_clueFor 101 = .ok (.iload 5, 2) := by decide +kernel
theorem dX8_clueFor_103 : decode cX8_clueFor 103 = .ok (.iadd, 1) := by decide +kernel
theorem dX8_clueFor_104 : decode cX8_clueFor 104 = .ok (.iaload, 1) := by decide +kernel
theorem dX8_clueFor_105 : decode cX8_clueFor 105 = .ok (.aload_n 0, 1) := by decide +kernel
theorem dX8_clueFor_106 : decode cX8_clueFor 106 = .ok (.getfield 7, 3) := by decide +kernel
theorem dX8_clueFor_109 : decode cX8_clueFor 109 = .ok (.sipush 164, 3) := by decide +kernel
theorem dX8_clueFor_112 : decode cX8_clueFor 112 = .ok (.iload 4, 2) := by decide +kernel
theorem dX8_clueFor_114 : decode cX8_clueFor 114 = .ok (.iadd, 1) := by decide +kernel
theorem dX8_clueFor_115 : decode cX8_clueFor 115 = .ok (.iaload, 1) := by decide +kernel
theorem dX8_clueFor_116 : decode cX8_clueFor 116 = .ok (.if_icmp .lt 8, 3) := by decide +kernel
theorem dX8_clueFor_119 : decode cX8_clueFor 119 = .ok (.iload 5, 2) := by decide +kernel
theorem dX8_clueFor_121 : decode cX8_clueFor 121 = .ok (.goto 5, 3) := by decide +kernel
theorem dX8_clueFor_124 : decode cX8_clueFor 124 = .ok (.iload 4, 2) := by decide +kernel
theorem dX8_clueFor_126 : decode cX8_clueFor 126 = .ok (.istore 4, 2) := by decide +kernel
theorem dX8_clueFor_128 : decode cX8_clueFor 128 = .ok (.iinc 5 (-1), 3) := by decide +kernel
theorem dX8_clueFor_131 : decode cX8_clueFor 131 = .ok (.goto (-117), 3) := by decide +kernel
theorem dX8_clueFor_134 : decode cX8_clueFor 134 = .ok (.iload 4, 2) := by decide +kernel
theorem dX8_clueFor_136 : decode cX8_clueFor 136 = .ok (.ireturn, 1) := by decide +kernel
theorem dX8_lowestUnknown_0 : decode cX8_lowestUnknown 0 = .ok (.iconst 0, 1) := by decide +kernel
theorem dX8_lowestUnknown_1 : decode cX8_lowestUnknown 1 = .ok (.istore_n 2, 1) := by decide +kernel
theorem dX8_lowestUnknown_2 : decode cX8_lowestUnknown 2 = .ok (.iload_n 2, 1) := by decide +kernel
theorem dX8_lowestUnknown_3 : decode cX8_lowestUnknown 3 = .ok (.iconst 4, 1) := by decide +kernel
theorem dX8_lowestUnknown_4 : decode cX8_lowestUnknown 4 = .ok (.if_icmp .ge 26, 3) := by decide +kernel
theorem dX8_lowestUnknown_7 : decode cX8_lowestUnknown 7 = .ok (.aload_n 0, 1) := by decide +kernel
theorem dX8_lowestUnknown_8 : decode cX8_lowestUnknown 8 = .ok (.getfield 7, 3) := by decide +kernel
theorem dX8_lowestUnknown_11 : decode cX8_lowestUnknown 11 = .ok (.bipush 68, 2) := by decide +kernel
theorem dX8_lowestUnknown_13 : decode cX8_lowestUnknown 13 = .ok (.iload_n 1, 1) := by decide +kernel
theorem dX8_lowestUnknown_14 : decode cX8_lowestUnknown 14 = .ok (.iadd, 1) := by decide +kernel
theorem dX8_lowestUnknown_15 : decode cX8_lowestUnknown 15 = .ok (.iaload, 1) := by decide +kernel
theorem dX8_lowestUnknown_16 : decode cX8_lowestUnknown 16 = .ok (.iload_n 2, 1) := by decide +kernel
theorem dX8_lowestUnknown_17 : decode cX8_lowestUnknown 17 = .ok (.ishr, 1) := by decide +kernel
theorem dX8_lowestUnknown_18 : decode cX8_lowestUnknown 18 = .ok (.iconst 1, 1) := by decide +kernel
theorem dX8_lowestUnknown_19 : decode cX8_lowestUnknown 19 = .ok (.iand, 1) := by decide +kernel
theorem dX8_lowestUnknown_20 : decode cX8_lowestUnknown 20 = .ok (.iconst 1, 1) := by decide +kernel
theorem dX8_lowestUnknown_21 : decode cX8_lowestUnknown 21 = .ok (.if_icmp .ne 9, 3) := by decide +kernel
theorem dX8_lowestUnknown_24 : decode cX8_lowestUnknown 24 = .ok (.iinc 2 1, 3) := by decide +kernel
theorem dX8_lowestUnknown_27 : decode cX8_lowestUnknown 27 = .ok (.goto (-25), 3) := by decide +kernel
theorem dX8_lowestUnknown_30 : decode cX8_lowestUnknown 30 = .ok (.iload_n 2, 1) := by decide +kernel
theorem dX8_lowestUnknown_31 : decode cX8_lowestUnknown 31 = .ok (.ireturn, 1) := by decide +kernel
theorem dX8_lowestHeld_0 : decode cX8_lowestHeld 0 = .ok (.iconst 0, 1) := by decide +kernel
theorem dX8_lowestHeld_1 : decode cX8_lowestHeld 1 = .ok (.istore_n 1, 1) := by decide +kernel
theorem dX8_lowestHeld_2 : decode cX8_lowestHeld 2 = .ok (.aload_n 0, 1) := by decide +kernel
theorem dX8_lowestHeld_3 : decode cX8_lowestHeld 3 = .ok (.iload_n 1, 1) := by decide +kernel
theorem dX8_lowestHeld_4 : decode cX8_lowestHeld 4 = .ok (.invokevirtual 45, 3) := by decide +kernel
theorem dX8_lowestHeld_7 : decode cX8_lowestHeld 7 = .ok (.ifCond .ne 9, 3) := by decide +kernel
theorem dX8_lowestHeld_10 : decode cX8_lowestHeld 10 = .ok (.iinc 1 1, 3) := by decide +kernel
theorem dX8_lowestHeld_13 : decode cX8_lowestHeld 13 = .ok (.goto (-11), 3) := by decide +kernel
theorem dX8_lowestHeld_16 : decode cX8_lowestHeld 16 = .ok (.iload_n 1, 1) := by decide +kernel
theorem dX8_lowestHeld_17 : decode cX8_lowestHeld 17 = .ok (.ireturn, 1) := by decide +kernel
theorem dX8_stepToHold_0 : decode cX8_stepToHold 0 = .ok (.aload_n 0, 1) := by decide +kernel
theorem dX8_stepToHold_1 : decode cX8_stepToHold 1 = .ok (.invokevirtual 137, 3) := by decide +kernel
theorem dX8_stepToHold_4 : decode cX8_stepToHold 4 = .ok (.aload_n 0, 1) := by decide +kernel
theorem dX8_stepToHold_5 : decode cX8_stepToHold 5 = .ok (.getfield 7, 3) := by decide +kernel
theorem dX8_stepToHold_8 : decode cX8_stepToHold 8 = .ok (.bipush 11, 2) := by decide +kernel
theorem dX8_stepToHold_10 : decode cX8_stepToHold 10 = .ok (.iaload, 1) := by decide +kernel
theorem dX8_stepToHold_11 : decode cX8_stepToHold 11 = .ok (.if_icmp .lt 14, 3) := by decide +kernel
theorem dX8_stepToHold_14 : decode cX8_stepToHold 14 = .ok (.sipush 200, 3) := by decide +kernel
theorem dX8_stepToHold_17 : decode cX8_stepToHold 17 = .ok (.aload_n 0, 1) := by decide +kernel
theorem dX8_stepToHold_18 : decode cX8_stepToHold 18 = .ok (.invokevirtual 161, 3) := by decide +kernel
theorem dX8_stepToHold_21 : decode cX8_stepToHold 21 = .ok (.iadd, 1) := by decide +kernel
theorem dX8_stepToHold_22 : decode cX8_stepToHold 22 = .ok (.goto 7, 3) := by decide +kernel
theorem dX8_stepToHold_25 : decode cX8_stepToHold 25 = .ok (.bipush 100, 2) := by decide +kernel
theorem dX8_stepToHold_27 : decode cX8_stepToHold 27 = .ok (.iload_n 1, 1) := by decide +kernel
theorem dX8_stepToHold_28 : decode cX8_stepToHold 28 = .ok (.iadd, 1) := by decide +kernel
theorem dX8_stepToHold_29 : decode cX8_stepToHold 29 = .ok (.ireturn, 1) := by decide +kernel
theorem dX8_stepFor_0 : decode cX8_stepFor 0 = .ok (.aload_n 0, 1) := by decide +kernel
theorem dX8_stepFor_1 : decode cX8_stepFor 1 = .ok (.getfield 7, 3) := by decide +kernel
theorem dX8_stepFor_4 : decode cX8_stepFor 4 = .ok (.bipush 32, 2) := by decide +kernel
theorem dX8_stepFor_6 : decode cX8_stepFor 6 = .ok (.iload_n 1, 1) := by decide +kernel
theorem dX8_stepFor_7 : decode cX8_stepFor 7 = .ok (.iadd, 1) := by decide +kernel
theorem dX8_stepFor_8 : decode cX8_stepFor 8 = .ok (.iaload, 1) := by decide +kernel
theorem dX8_stepFor_9 : decode cX8_stepFor 9 = .ok (.istore_n 2, 1) := by decide +kernel
theorem dX8_stepFor_10 : decode cX8_stepFor 10 = .ok (.aload_n 0, 1) := by decide +kernel
theorem dX8_stepFor_11 : decode cX8_stepFor 11 = .ok (.getfield 7, 3) := by decide +kernel
theorem dX8_stepFor_14 : decode cX8_stepFor 14 = .ok (.bipush 44, 2) := by decide +kernel
theorem dX8_stepFor_16 : decode cX8_stepFor 16 = .ok (.iload_n 1, 1) := by decide +kernel
theorem dX8_stepFor_17 : decode cX8_stepFor 17 = .ok (.iadd, 1) := by decide +kernel
theorem dX8_stepFor_18 : decode cX8_stepFor 18 = .ok (.iaload, 1) := by decide +kernel
theorem dX8_stepFor_19 : decode cX8_stepFor 19 = .ok (.istore_n 3, 1) := by decide +kernel
theorem dX8_stepFor_20 : decode cX8_stepFor 20 = .ok (.iload_n 2, 1) := by decide +kernel
theorem dX8_stepFor_21 : decode cX8_stepFor 21 = .ok (.iconst 2, 1) := by decide +kernel
theorem dX8_stepFor_22 : decode cX8_stepFor 22 = .ok (.if_icmp .ne 100, 3) := by decide +kernel
theorem dX8_stepFor_25 : decode cX8_stepFor 25 = .ok (.aload_n 0, 1) := by decide +kernel
theorem dX8_stepFor_26 : decode cX8_stepFor 26 = .ok (.iload_n 1, 1) := by decide +kernel
theorem dX8_stepFor_27 : decode cX8_stepFor 27 = .ok (.invokevirtual 164, 3) := by decide +kernel
theorem dX8_stepFor_30 : decode cX8_stepFor 30 = .ok (.istore 4, 2) := by decide +kernel
theorem dX8_stepFor_32 : decode cX8_stepFor 32 = .ok (.iload 4, 2) := by decide +kernel
theorem dX8_stepFor_34 : decode cX8_stepFor 34 = .ok (.iconst 4, 1) := by decide +kernel
theorem dX8_stepFor_35 : decode cX8_stepFor 35 = .ok (.if_icmp .ne 9, 3) := by decide +kernel
theorem dX8_stepFor_38 : decode cX8_stepFor 38 = .ok (.sipush 300, 3) := by decide +kernel
theorem dX8_stepFor_41 : decode cX8_stepFor 41 = .ok (.iload_n 1, 1) := by decide +kernel
theorem dX8_stepFor_42 : decode cX8_stepFor 42 = .ok (.iadd, 1) := by decide +kernel
theorem dX8_stepFor_43 : decode cX8_stepFor 43 = .ok (.ireturn, 1) := by decide +kernel
theorem dX8_stepFor_44 : decode cX8_stepFor 44 = .ok (.aload_n 0, 1) := by decide +kernel
theorem dX8_stepFor_45 : decode cX8_stepFor 45 = .ok (.iload_n 1, 1) := by decide +kernel
theorem dX8_stepFor_46 : decode cX8_stepFor 46 = .ok (.iload 4, 2) := by decide +kernel
theorem dX8_stepFor_48 : decode cX8_stepFor 48 = .ok (.iconst 1, 1) := by decide +kernel
theorem dX8_stepFor_49 : decode cX8_stepFor 49 = .ok (.invokevirtual 167, 3) := by decide +kernel
theorem dX8_stepFor_52 : decode cX8_stepFor 52 = .ok (.istore 5, 2) := by decide +kernel
theorem dX8_stepFor_54 : decode cX8_stepFor 54 = .ok (.iload 5, 2) := by decide +kernel
theorem dX8_stepFor_56 : decode cX8_stepFor 56 = .ok (.ifCond .lt 10, 3) := by decide +kernel
theorem dX8_stepFor_59 : decode cX8_stepFor 59 = .ok (.sipush 400, 3) := by decide +kernel
theorem dX8_stepFor_62 : decode cX8_stepFor 62 = .ok (.iload 5, 2) := by decide +kernel
theorem dX8_stepFor_64 : decode cX8_stepFor 64 = .ok (.iadd, 1) := by decide +kernel
theorem dX8_stepFor_65 : decode cX8_stepFor 65 = .ok (.ireturn, 1) := by decide +kernel
theorem dX8_stepFor_66 : decode cX8_stepFor 66 = .ok (.aload_n 0, 1) := by decide +kernel
theorem dX8_stepFor_67 : decode cX8_stepFor 67 = .ok (.iload_n 1, 1) := by decide +kernel
theorem dX8_stepFor_68 : decode cX8_stepFor 68 = .ok (.iload 4, 2) := by decide +kernel
theorem dX8_stepFor_70 : decode cX8_stepFor 70 = .ok (.iconst 0, 1) := by decide +kernel
theorem dX8_stepFor_71 : decode cX8_stepFor 71 = .ok (.invokevirtual 167, 3) := by decide +kernel
theorem dX8_stepFor_74 : decode cX8_stepFor 74 = .ok (.istore 5, 2) := by decide +kernel
theorem dX8_stepFor_76 : decode cX8_stepFor 76 = .ok (.aload_n 0, 1) := by decide +kernel
theorem dX8_stepFor_77 : decode cX8_stepFor 77 = .ok (.iload_n 1, 1) := by decide +kernel
theorem dX8_stepFor_78 : decode cX8_stepFor 78 = .ok (.putfield 171, 3) := by decide +kernel
theorem dX8_stepFor_81 : decode cX8_stepFor 81 = .ok (.iload 5, 2) := by decide +kernel
theorem dX8_stepFor_83 : decode cX8_stepFor 83 = .ok (.ifCond .ge 12, 3) := by decide +kernel
theorem dX8_stepFor_86 : decode cX8_stepFor 86 = .ok (.sipush 500, 3) := by decide +kernel
theorem dX8_stepFor_89 : decode cX8_stepFor 89 = .ok (.iload 4, 2) := by decide +kernel
theorem dX8_stepFor_91 : decode cX8_stepFor 91 = .ok (.iadd, 1) := by decide +kernel
theorem dX8_stepFor_92 : decode cX8_stepFor 92 = .ok (.goto 29, 3) := by decide +kernel
theorem dX8_stepFor_95 : decode cX8_stepFor 95 = .ok (.bipush (-10), 2) := by decide +kernel
theorem dX8_stepFor_97 : decode cX8_stepFor 97 = .ok (.aload_n 0, 1) := by decide +kernel
theorem dX8_stepFor_98 : decode cX8_stepFor 98 = .ok (.aload_n 0, 1) := by decide +kernel
theorem dX8_stepFor_99 : decode cX8_stepFor 99 = .ok (.getfield 7, 3) := by decide +kernel
theorem dX8_stepFor_102 : decode cX8_stepFor 102 = .ok (.bipush 104, 2) := by decide +kernel
theorem dX8_stepFor_104 : decode cX8_stepFor 104 = .ok (.aload_n 0, 1) := by decide +kernel
theorem dX8_stepFor_105 : decode cX8_stepFor 105 = .ok (.getfield 7, 3) := by decide +kernel
theorem dX8_stepFor_108 : decode cX8_stepFor 108 = .ok (.sipush 128, 3) := by decide +kernel
theorem dX8_stepFor_111 : decode cX8_stepFor 111 = .ok (.iload 5, 2) := by decide +kernel
theorem dX8_stepFor_113 : decode cX8_stepFor 113 = .ok (.iadd, 1) := by decide +kernel
theorem dX8_stepFor_114 : decode cX8_stepFor 114 = .ok (.iaload, 1) := by decide +kernel
theorem dX8_stepFor_115 : decode cX8_stepFor 115 = .ok (.iadd, 1) := by decide +kernel
theorem dX8_stepFor_116 : decode cX8_stepFor 116 = .ok (.iaload, 1) := by decide +kernel
theorem dX8_stepFor_117 : decode cX8_stepFor 117 = .ok (.invokevirtual 38, 3) := by decide +kernel
theorem dX8_stepFor_120 : decode cX8_stepFor 120 = .ok (.isub, 1) := by decide +kernel
theorem dX8_stepFor_121 : decode cX8_stepFor 121 = .ok (.ireturn, 1) := by decide +kernel
theorem dX8_stepFor_122 : decode cX8_stepFor 122 = .ok (.aload_n 0, 1) := by decide +kernel
theorem dX8_stepFor_123 : decode cX8_stepFor 123 = .ok (.iload_n 1, 1) := by decide +kernel
theorem dX8_stepFor_124 : decode cX8_stepFor 124 = .ok (.invokevirtual 146, 3) := by decide +kernel
theorem dX8_stepFor_127 : decode cX8_stepFor 127 = .ok (.ifCond .eq 9, 3) := by decide +kernel
theorem dX8_stepFor_130 : decode cX8_stepFor 130 = .ok (.sipush 300, 3) := by decide +kernel
theorem dX8_stepFor_133 : decode cX8_stepFor 133 = .ok (.iload_n 1, 1) := by decide +kernel
theorem dX8_stepFor_134 : decode cX8_stepFor 134 = .ok (.iadd, 1) := by decide +kernel
theorem dX8_stepFor_135 : decode cX8_stepFor 135 = .ok (.ireturn, 1) := by decide +kernel
theorem dX8_stepFor_136 : decode cX8_stepFor 136 = .ok (.iload_n 2, 1) := by decide +kernel
theorem dX8_stepFor_137 : decode cX8_stepFor 137 = .ok (.iconst 1, 1) := by decide +kernel
theorem dX8_stepFor_138 : decode cX8_stepFor 138 = .ok (.if_icmp .eq 31, 3) := by decide +kernel
theorem dX8_stepFor_141 : decode cX8_stepFor 141 = .ok (.aload_n 0, 1) := by decide +kernel
theorem dX8_stepFor_142 : decode cX8_stepFor 142 = .ok (.iload_n 3, 1) := by decide +kernel
theorem dX8_stepFor_143 : decode cX8_stepFor 143 = .ok (.invokevirtual 45, 3) := by decide +kernel
theorem dX8_stepFor_146 : decode cX8_stepFor 146 = .ok (.ifCond .eq 23, 3) := by decide +kernel
theorem dX8_stepFor_149 : decode cX8_stepFor 149 = .ok (.sipush 200, 3) := by decide +kernel
theorem dX8_stepFor_152 : decode cX8_stepFor 152 = .ok (.iload_n 3, 1) := by decide +kernel
theorem dX8_stepFor_153 : decode cX8_stepFor 153 = .ok (.iadd, 1) := by decide +kernel
theorem dX8_stepFor_154 : decode cX8_stepFor 154 = .ok (.sipush 1000, 3) := by decide +kernel
theorem dX8_stepFor_157 : decode cX8_stepFor 157 = .ok (.aload_n 0, 1) := by decide +kernel
theorem dX8_stepFor_158 : decode cX8_stepFor 158 = .ok (.getfield 7, 3) := by decide +kernel
theorem dX8_stepFor_161 : decode cX8_stepFor 161 = .ok (.bipush 20, 2) := by decide +kernel
theorem dX8_stepFor_163 : decode cX8_stepFor 163 = .ok (.iload_n 1, 1) := by decide +kernel
theorem dX8_stepFor_164 : decode cX8_stepFor 164 = .ok (.iadd, 1) := by decide +kernel
theorem dX8_stepFor_165 : decode cX8_stepFor 165 = .ok (.iaload, 1) := by decide +kernel
theorem dX8_stepFor_166 : decode cX8_stepFor 166 = .ok (.imul, 1) := by decide +kernel
theorem dX8_stepFor_167 : decode cX8_stepFor 167 = .ok (.iadd, 1) := by decide +kernel
theorem dX8_stepFor_168 : decode cX8_stepFor 168 = .ok (.ireturn, 1) := by decide +kernel
theorem dX8_stepFor_169 : decode cX8_stepFor 169 = .ok (.aload_n 0, 1) := by decide +kernel
theorem dX8_stepFor_170 : decode cX8_stepFor 170 = .ok (.iload_n 3, 1) := by decide +kernel
theorem dX8_stepFor_171 : decode cX8_stepFor 171 = .ok (.invokevirtual 48, 3) := by decide +kernel
theorem dX8_stepFor_174 : decode cX8_stepFor 174 = .ok (.ifCond .eq 11, 3) := by decide +kernel
theorem dX8_stepFor_177 : decode cX8_stepFor 177 = .ok (.aload_n 0, 1) := by decide +kernel
theorem dX8_stepFor_178 : decode cX8_stepFor 178 = .ok (.iload_n 3, 1) := by decide +kernel
theorem dX8_stepFor_179 : decode cX8_stepFor 179 = .ok (.invokevirtual 174, 3) := by decide +kernel
theorem dX8_stepFor_182 : decode cX8_stepFor 182 = .ok (.goto 19, 3) := by decide +kernel
theorem dX8_stepFor_185 : decode cX8_stepFor 185 = .ok (.bipush (-10), 2) := by decide +kernel
theorem dX8_stepFor_187 : decode cX8_stepFor 187 = .ok (.aload_n 0, 1) := by decide +kernel
theorem dX8_stepFor_188 : decode cX8_stepFor 188 = .ok (.aload_n 0, 1) := by decide +kernel
theorem dX8_stepFor_189 : decode cX8_stepFor 189 = .ok (.getfield 7, 3) := by decide +kernel
theorem dX8_stepFor_192 : decode cX8_stepFor 192 = .ok (.bipush 104, 2) := by decide +kernel
theorem dX8_stepFor_194 : decode cX8_stepFor 194 = .ok (.iload_n 3, 1) := by decide +kernel
theorem dX8_stepFor_195 : decode cX8_stepFor 195 = .ok (.iadd, 1) := by decide +kernel
theorem dX8_stepFor_196 : decode cX8_stepFor 196 = .ok (.iaload, 1) := by decide +kernel
theorem dX8_stepFor_197 : decode cX8_stepFor 197 = .ok (.invokevirtual 38, 3) := by decide +kernel
theorem dX8_stepFor_200 : decode cX8_stepFor 200 = .ok (.isub, 1) := by decide +kernel
theorem dX8_stepFor_201 : decode cX8_stepFor 201 = .ok (.ireturn, 1) := by decide +kernel
theorem dX8_step_0 : decode cX8_step 0 = .ok (.iconst 0, 1) := by decide +kernel
theorem dX8_step_1 : decode cX8_step 1 = .ok (.istore_n 1, 1) := by decide +kernel
theorem dX8_step_2 : decode cX8_step 2 = .ok (.aload_n 0, 1) := by decide +kernel
theorem dX8_step_3 : decode cX8_step 3 = .ok (.getfield 7, 3) := by decide +kernel
theorem dX8_step_6 : decode cX8_step 6 = .ok (.iconst 5, 1) := by decide +kernel
theorem dX8_step_7 : decode cX8_step 7 = .ok (.iaload, 1) := by decide +kernel
theorem dX8_step_8 : decode cX8_step 8 = .ok (.istore_n 2, 1) := by decide +kernel
theorem dX8_step_9 : decode cX8_step 9 = .ok (.iload_n 1, 1) := by decide +kernel
theorem dX8_step_10 : decode cX8_step 10 = .ok (.iload_n 2, 1) := by decide +kernel
theorem dX8_step_11 : decode cX8_step 11 = .ok (.ishr, 1) := by decide +kernel
theorem dX8_step_12 : decode cX8_step 12 = .ok (.iconst 1, 1) := by decide +kernel
theorem dX8_step_13 : decode cX8_step 13 = .ok (.iand, 1) := by decide +kernel
theorem dX8_step_14 : decode cX8_step 14 = .ok (.ifCond .ne 50, 3) := by decide +kernel
theorem dX8_step_17 : decode cX8_step 17 = .ok (.iload_n 1, 1) := by decide +kernel
theorem dX8_step_18 : decode cX8_step 18 = .ok (.iconst 1, 1) := by decide +kernel
theorem dX8_step_19 : decode cX8_step 19 = .ok (.iload_n 2, 1) := by decide +kernel
theorem dX8_step_20 : decode cX8_step 20 = .ok (.ishl, 1) := by decide +kernel
theorem dX8_step_21 : decode cX8_step 21 = .ok (.ior, 1) := by decide +kernel
theorem dX8_step_22 : decode cX8_step 22 = .ok (.istore_n 1, 1) := by decide +kernel
theorem dX8_step_23 : decode cX8_step 23 = .ok (.aload_n 0, 1) := by decide +kernel
theorem dX8_step_24 : decode cX8_step 24 = .ok (.iload_n 2, 1) := by decide +kernel
theorem dX8_step_25 : decode cX8_step 25 = .ok (.invokevirtual 42, 3) := by decide +kernel
theorem dX8_step_28 : decode cX8_step 28 = .ok (.istore_n 3, 1) := by decide +kernel
theorem dX8_step_29 : decode cX8_step 29 = .ok (.iload_n 3, 1) := by decide +kernel
theorem dX8_step_30 : decode cX8_step 30 = .ok (.ifCond .lt 10, 3) := by decide +kernel
theorem dX8_step_33 : decode cX8_step 33 = .ok (.bipush (-10), 2) := by decide +kernel
theorem dX8_step_35 : decode cX8_step 35 = .ok (.iload_n 3, 1) := by decide +kernel
theorem dX8_step_36 : decode cX8_step 36 = .ok (.isub, 1) := by decide +kernel
theorem dX8_step_37 : decode cX8_step 37 = .ok (.goto 8, 3) := by decide +kernel
theorem dX8_step_40 : decode cX8_step 40 = .ok (.aload_n 0, 1) := by decide +kernel
theorem dX8_step_41 : decode cX8_step 41 = .ok (.iload_n 2, 1) := by decide +kernel
theorem dX8_step_42 : decode cX8_step 42 = .ok (.invokevirtual 177, 3) := by decide +kernel
theorem dX8_step_45 : decode cX8_step 45 = .ok (.istore 4, 2) := by decide +kernel
theorem dX8_step_47 : decode cX8_step 47 = .ok (.iload 4, 2) := by decide +kernel
theorem dX8_step_49 : decode cX8_step 49 = .ok (.ifCond .lt 6, 3) := by decide +kernel
theorem dX8_step_52 : decode cX8_step 52 = .ok (.iload 4, 2) := by decide +kernel
theorem dX8_step_54 : decode cX8_step 54 = .ok (.ireturn, 1) := by decide +kernel
theorem dX8_step_55 : decode cX8_step 55 = .ok (.bipush (-10), 2) := by decide +kernel
theorem dX8_step_57 : decode cX8_step 57 = .ok (.iload 4, 2) := by decide +kernel
theorem dX8_step_59 : decode cX8_step 59 = .ok (.isub, 1) := by decide +kernel
theorem dX8_step_60 : decode cX8_step 60 = .ok (.istore_n 2, 1) := by decide +kernel
theorem dX8_step_61 : decode cX8_step 61 = .ok (.goto (-52), 3) := by decide +kernel
theorem dX8_step_64 : decode cX8_step 64 = .ok (.bipush (-5), 2) := by decide +kernel
theorem dX8_step_66 : decode cX8_step 66 = .ok (.ireturn, 1) := by decide +kernel
theorem dX8_nextStep_0 : decode cX8_nextStep 0 = .ok (.aload_n 0, 1) := by decide +kernel
theorem dX8_nextStep_1 : decode cX8_nextStep 1 = .ok (.invokevirtual 105, 3) := by decide +kernel
theorem dX8_nextStep_4 : decode cX8_nextStep 4 = .ok (.ifCond .eq 10, 3) := by decide +kernel
theorem dX8_nextStep_7 : decode cX8_nextStep 7 = .ok (.aload_n 0, 1) := by decide +kernel
theorem dX8_nextStep_8 : decode cX8_nextStep 8 = .ok (.invokevirtual 180, 3) := by decide +kernel
theorem dX8_nextStep_11 : decode cX8_nextStep 11 = .ok (.goto 5, 3) := by decide +kernel
theorem dX8_nextStep_14 : decode cX8_nextStep 14 = .ok (.bipush (-4), 2) := by decide +kernel
theorem dX8_nextStep_16 : decode cX8_nextStep 16 = .ok (.ireturn, 1) := by decide +kernel
theorem dX8_nudge_0 : decode cX8_nudge 0 = .ok (.aload_n 0, 1) := by decide +kernel
theorem dX8_nudge_1 : decode cX8_nudge 1 = .ok (.invokevirtual 105, 3) := by decide +kernel
theorem dX8_nudge_4 : decode cX8_nudge 4 = .ok (.ifCond .ne 6, 3) := by decide +kernel
theorem dX8_nudge_7 : decode cX8_nudge 7 = .ok (.bipush (-4), 2) := by decide +kernel
theorem dX8_nudge_9 : decode cX8_nudge 9 = .ok (.ireturn, 1) := by decide +kernel
theorem dX8_nudge_10 : decode cX8_nudge 10 = .ok (.aload_n 0, 1) := by decide +kernel
theorem dX8_nudge_11 : decode cX8_nudge 11 = .ok (.getfield 7, 3) := by decide +kernel
theorem dX8_nudge_14 : decode cX8_nudge 14 = .ok (.bipush 14, 2) := by decide +kernel
theorem dX8_nudge_16 : decode cX8_nudge 16 = .ok (.iaload, 1) := by decide +kernel
theorem dX8_nudge_17 : decode cX8_nudge 17 = .ok (.aload_n 0, 1) := by decide +kernel
theorem dX8_nudge_18 : decode cX8_nudge 18 = .ok (.getfield 7, 3) := by decide +kernel
theorem dX8_nudge_21 : decode cX8_nudge 21 = .ok (.bipush 7, 2) := by decide +kernel
theorem dX8_nudge_23 : decode cX8_nudge 23 = .ok (.iaload, 1) := by decide +kernel
theorem dX8_nudge_24 : decode cX8_nudge 24 = .ok (.if_icmp .ne 6, 3) := by decide +kernel
theorem dX8_nudge_27 : decode cX8_nudge 27 = .ok (.bipush (-3), 2) := by decide +kernel
theorem dX8_nudge_29 : decode cX8_nudge 29 = .ok (.ireturn, 1) := by decide +kernel
theorem dX8_nudge_30 : decode cX8_nudge 30 = .ok (.aload_n 0, 1) := by decide +kernel
theorem dX8_nudge_31 : decode cX8_nudge 31 = .ok (.invokevirtual 180, 3) := by decide +kernel
theorem dX8_nudge_34 : decode cX8_nudge 34 = .ok (.istore_n 1, 1) := by decide +kernel
theorem dX8_nudge_35 : decode cX8_nudge 35 = .ok (.iload_n 1, 1) := by decide +kernel
theorem dX8_nudge_36 : decode cX8_nudge 36 = .ok (.ifCond .ge 6, 3) := by decide +kernel
theorem dX8_nudge_39 : decode cX8_nudge 39 = .ok (.bipush (-5), 2) := by decide +kernel
theorem dX8_nudge_41 : decode cX8_nudge 41 = .ok (.ireturn, 1) := by decide +kernel
theorem dX8_nudge_42 : decode cX8_nudge 42 = .ok (.aload_n 0, 1) := by decide +kernel
theorem dX8_nudge_43 : decode cX8_nudge 43 = .ok (.iconst 2, 1) := by decide +kernel
theorem dX8_nudge_44 : decode cX8_nudge 44 = .ok (.invokevirtual 140, 3) := by decide +kernel
theorem dX8_nudge_47 : decode cX8_nudge 47 = .ok (.ifCond .eq 6, 3) := by decide +kernel
theorem dX8_nudge_50 : decode cX8_nudge 50 = .ok (.bipush (-6), 2) := by decide +kernel
theorem dX8_nudge_52 : decode cX8_nudge 52 = .ok (.ireturn, 1) := by decide +kernel
theorem dX8_nudge_53 : decode cX8_nudge 53 = .ok (.aload_n 0, 1) := by decide +kernel
theorem dX8_nudge_54 : decode cX8_nudge 54 = .ok (.iconst 4, 1) := by decide +kernel
theorem dX8_nudge_55 : decode cX8_nudge 55 = .ok (.iload_n 1, 1) := by decide +kernel
theorem dX8_nudge_56 : decode cX8_nudge 56 = .ok (.iconst 0, 1) := by decide +kernel
theorem dX8_nudge_57 : decode cX8_nudge 57 = .ok (.invokevirtual 130, 3) := by decide +kernel
theorem dX8_nudge_60 : decode cX8_nudge 60 = .ok (.iload_n 1, 1) := by decide +kernel
theorem dX8_nudge_61 : decode cX8_nudge 61 = .ok (.sipush 500, 3) := by decide +kernel
theorem dX8_nudge_64 : decode cX8_nudge 64 = .ok (.sipush 503, 3) := by decide +kernel
theorem dX8_nudge_67 : decode cX8_nudge 67 = .ok (.invokestatic 30, 3) := by decide +kernel
theorem dX8_nudge_70 : decode cX8_nudge 70 = .ok (.ifCond .eq 25, 3) := by decide +kernel
theorem dX8_nudge_73 : decode cX8_nudge 73 = .ok (.aload_n 0, 1) := by decide +kernel
theorem dX8_nudge_74 : decode cX8_nudge 74 = .ok (.getfield 7, 3) := by decide +kernel
theorem dX8_nudge_77 : decode cX8_nudge 77 = .ok (.bipush 68, 2) := by decide +kernel
theorem dX8_nudge_79 : decode cX8_nudge 79 = .ok (.aload_n 0, 1) := by decide +kernel
theorem dX8_nudge_80 : decode cX8_nudge 80 = .ok (.getfield 171, 3) := by decide +kernel
theorem dX8_nudge_83 : decode cX8_nudge 83 = .ok (.iadd, 1) := by decide +kernel
theorem dX8_nudge_84 : decode cX8_nudge 84 = .ok (.dup2, 1) := by decide +kernel
theorem dX8_nudge_85 : decode cX8_nudge 85 = .ok (.iaload, 1) := by decide +kernel
theorem dX8_nudge_86 : decode cX8_nudge 86 = .ok (.iconst 1, 1) := by decide +kernel
theorem dX8_nudge_87 : decode cX8_nudge 87 = .ok (.iload_n 1, 1) := by decide +kernel
theorem dX8_nudge_88 : decode cX8_nudge 88 = .ok (.sipush 500, 3) := by decide +kernel
theorem dX8_nudge_91 : decode cX8_nudge 91 = .ok (.isub, 1) := by decide +kernel
theorem dX8_nudge_92 : decode cX8_nudge 92 = .ok (.ishl, 1) := by decide +kernel
theorem dX8_nudge_93 : decode cX8_nudge 93 = .ok (.ior, 1) := by decide +kernel
theorem dX8_nudge_94 : decode cX8_nudge 94 = .ok (.iastore, 1) := by decide +kernel
theorem dX8_nudge_95 : decode cX8_nudge 95 = .ok (.aload_n 0, 1) := by decide +kernel
theorem dX8_nudge_96 : decode cX8_nudge 96 = .ok (.getfield 7, 3) := by decide +kernel
theorem dX8_nudge_99 : decode cX8_nudge 99 = .ok (.bipush 14, 2) := by decide +kernel
theorem dX8_nudge_101 : decode cX8_nudge 101 = .ok (.dup2, 1) := by decide +kernel
theorem dX8_nudge_102 : decode cX8_nudge 102 = .ok (.iaload, 1) := by decide +kernel
theorem dX8_nudge_103 : decode cX8_nudge 103 = .ok (.iconst 1, 1) := by decide +kernel
theorem dX8_nudge_104 : decode cX8_nudge 104 = .ok (.iadd, 1) := by decide +kernel
theorem dX8_nudge_105 : decode cX8_nudge 105 = .ok (.iastore, 1) := by decide +kernel
theorem dX8_nudge_106 : decode cX8_nudge 106 = .ok (.aload_n 0, 1) := by decide +kernel
theorem dX8_nudge_107 : decode cX8_nudge 107 = .ok (.iconst 2, 1) := by decide +kernel
theorem dX8_nudge_108 : decode cX8_nudge 108 = .ok (.invokevirtual 115, 3) := by decide +kernel
theorem dX8_nudge_111 : decode cX8_nudge 111 = .ok (.iload_n 1, 1) := by decide +kernel
theorem dX8_nudge_112 : decode cX8_nudge 112 = .ok (.ireturn, 1) := by decide +kernel
theorem dX8_giveUp_0 : decode cX8_giveUp 0 = .ok (.aload_n 0, 1) := by decide +kernel
theorem dX8_giveUp_1 : decode cX8_giveUp 1 = .ok (.invokevirtual 105, 3) := by decide +kernel
theorem dX8_giveUp_4 : decode cX8_giveUp 4 = .ok (.ifCond .ne 6, 3) := by decide +kernel
theorem dX8_giveUp_7 : decode cX8_giveUp 7 = .ok (.bipush (-4), 2) := by decide +kernel
theorem dX8_giveUp_9 : decode cX8_giveUp 9 = .ok (.ireturn, 1) := by decide +kernel
theorem dX8_giveUp_10 : decode cX8_giveUp 10 = .ok (.aload_n 0, 1) := by decide +kernel
theorem dX8_giveUp_11 : decode cX8_giveUp 11 = .ok (.bipush 7, 2) := by decide +kernel
theorem dX8_giveUp_13 : decode cX8_giveUp 13 = .ok (.iconst 0, 1) := by decide +kernel
theorem dX8_giveUp_14 : decode cX8_giveUp 14 = .ok (.iconst 0, 1) := by decide +kernel
theorem dX8_giveUp_15 : decode cX8_giveUp 15 = .ok (.invokevirtual 130, 3) := by decide +kernel
theorem dX8_giveUp_18 : decode cX8_giveUp 18 = .ok (.aload_n 0, 1) := by decide +kernel
theorem dX8_giveUp_19 : decode cX8_giveUp 19 = .ok (.getfield 7, 3) := by decide +kernel
theorem dX8_giveUp_22 : decode cX8_giveUp 22 = .ok (.bipush 9, 2) := by decide +kernel
theorem dX8_giveUp_24 : decode cX8_giveUp 24 = .ok (.iaload, 1) := by decide +kernel
theorem dX8_giveUp_25 : decode cX8_giveUp 25 = .ok (.aload_n 0, 1) := by decide +kernel
theorem dX8_giveUp_26 : decode cX8_giveUp 26 = .ok (.getfield 7, 3) := by decide +kernel
theorem dX8_giveUp_29 : decode cX8_giveUp 29 = .ok (.bipush 13, 2) := by decide +kernel
theorem dX8_giveUp_31 : decode cX8_giveUp 31 = .ok (.iaload, 1) := by decide +kernel
theorem dX8_giveUp_32 : decode cX8_giveUp 32 = .ok (.isub, 1) := by decide +kernel
theorem dX8_giveUp_33 : decode cX8_giveUp 33 = .ok (.istore_n 1, 1) := by decide +kernel
theorem dX8_giveUp_34 : decode cX8_giveUp 34 = .ok (.aload_n 0, 1) := by decide +kernel
theorem dX8_giveUp_35 : decode cX8_giveUp 35 = .ok (.iconst 0, 1) := by decide +kernel
theorem dX8_giveUp_36 : decode cX8_giveUp 36 = .ok (.invokevirtual 134, 3) := by decide +kernel
theorem dX8_giveUp_39 : decode cX8_giveUp 39 = .ok (.iload_n 1, 1) := by decide +kernel
theorem dX8_giveUp_40 : decode cX8_giveUp 40 = .ok (.ireturn, 1) := by decide +kernel
theorem dX8_planned_0 : decode cX8_planned 0 = .ok (.iload_n 1, 1) := by decide +kernel
theorem dX8_planned_1 : decode cX8_planned 1 = .ok (.sipush 1000, 3) := by decide +kernel
theorem dX8_planned_4 : decode cX8_planned 4 = .ok (.irem, 1) := by decide +kernel
theorem dX8_planned_5 : decode cX8_planned 5 = .ok (.bipush 100, 2) := by decide +kernel
theorem dX8_planned_7 : decode cX8_planned 7 = .ok (.idiv, 1) := by decide +kernel
theorem dX8_planned_8 : decode cX8_planned 8 = .ok (.istore_n 2, 1) := by decide +kernel
theorem dX8_planned_9 : decode cX8_planned 9 = .ok (.iload_n 1, 1) := by decide +kernel
theorem dX8_planned_10 : decode cX8_planned 10 = .ok (.bipush 100, 2) := by decide +kernel
theorem dX8_planned_12 : decode cX8_planned 12 = .ok (.irem, 1) := by decide +kernel
theorem dX8_planned_13 : decode cX8_planned 13 = .ok (.istore_n 3, 1) := by decide +kernel
theorem dX8_planned_14 : decode cX8_planned 14 = .ok (.iload_n 2, 1) := by decide +kernel
theorem dX8_planned_15 : decode cX8_planned 15 = .ok (.tableswitch 110 1 4 #[29, 45, 65, 81], 29) := by decide +kernel
theorem dX8_planned_44 : decode cX8_planned 44 = .ok (.aload_n 0, 1) := by decide +kernel
theorem dX8_planned_45 : decode cX8_planned 45 = .ok (.getfield 7, 3) := by decide +kernel
theorem dX8_planned_48 : decode cX8_planned 48 = .ok (.bipush 104, 2) := by decide +kernel
theorem dX8_planned_50 : decode cX8_planned 50 = .ok (.iload_n 3, 1) := by decide +kernel
theorem dX8_planned_51 : decode cX8_planned 51 = .ok (.iadd, 1) := by decide +kernel
theorem dX8_planned_52 : decode cX8_planned 52 = .ok (.iconst (-1), 1) := by decide +kernel
theorem dX8_planned_53 : decode cX8_planned 53 = .ok (.iastore, 1) := by decide +kernel
theorem dX8_planned_54 : decode cX8_planned 54 = .ok (.aload_n 0, 1) := by decide +kernel
theorem dX8_planned_55 : decode cX8_planned 55 = .ok (.iconst 3, 1) := by decide +kernel
theorem dX8_planned_56 : decode cX8_planned 56 = .ok (.invokevirtual 124, 3) := by decide +kernel
theorem dX8_planned_59 : decode cX8_planned 59 = .ok (.ireturn, 1) := by decide +kernel
theorem dX8_planned_60 : decode cX8_planned 60 = .ok (.aload_n 0, 1) := by decide +kernel
theorem dX8_planned_61 : decode cX8_planned 61 = .ok (.getfield 7, 3) := by decide +kernel
theorem dX8_planned_64 : decode cX8_planned 64 = .ok (.bipush 104, 2) := by decide +kernel
theorem dX8_planned_66 : decode cX8_planned 66 = .ok (.iload_n 3, 1) := by decide +kernel
theorem dX8_planned_67 : decode cX8_planned 67 = .ok (.iadd, 1) := by decide +kernel
theorem dX8_planned_68 : decode cX8_planned 68 = .ok (.iload_n 1, 1) := by decide +kernel
theorem dX8_planned_69 : decode cX8_planned 69 = .ok (.sipush 1000, 3) := by decide +kernel
theorem dX8_planned_72 : decode cX8_planned 72 = .ok (.idiv, 1) := by decide +kernel
theorem dX8_planned_73 : decode cX8_planned 73 = .ok (.iastore, 1) := by decide +kernel
theorem dX8_planned_74 : decode cX8_planned 74 = .ok (.aload_n 0, 1) := by decide +kernel
theorem dX8_planned_75 : decode cX8_planned 75 = .ok (.iconst 2, 1) := by decide +kernel
theorem dX8_planned_76 : decode cX8_planned 76 = .ok (.invokevirtual 124, 3) := by decide +kernel
theorem dX8_planned_79 : decode cX8_planned 79 = .ok (.ireturn, 1) := by decide +kernel
theorem dX8_planned_80 : decode cX8_planned 80 = .ok (.aload_n 0, 1) := by decide +kernel
theorem dX8_planned_81 : decode cX8_planned 81 = .ok (.getfield 7, 3) := by decide +kernel
theorem dX8_planned_84 : decode cX8_planned 84 = .ok (.bipush 56, 2) := by decide +kernel
theorem dX8_planned_86 : decode cX8_planned 86 = .ok (.iload_n 3, 1) := by decide +kernel
theorem dX8_planned_87 : decode cX8_planned 87 = .ok (.iadd, 1) := by decide +kernel
theorem dX8_planned_88 : decode cX8_planned 88 = .ok (.iconst 1, 1) := by decide +kernel
theorem dX8_planned_89 : decode cX8_planned 89 = .ok (.iastore, 1) := by decide +kernel
theorem dX8_planned_90 : decode cX8_planned 90 = .ok (.aload_n 0, 1) := by decide +kernel
theorem dX8_planned_91 : decode cX8_planned 91 = .ok (.iconst 4, 1) := by decide +kernel
theorem dX8_planned_92 : decode cX8_planned 92 = .ok (.invokevirtual 124, 3) := by decide +kernel
theorem dX8_planned_95 : decode cX8_planned 95 = .ok (.ireturn, 1) := by decide +kernel
theorem dX8_planned_96 : decode cX8_planned 96 = .ok (.aload_n 0, 1) := by decide +kernel
theorem dX8_planned_97 : decode cX8_planned 97 = .ok (.iload_n 3, 1) := by decide +kernel
theorem dX8_planned_98 : decode cX8_planned 98 = .ok (.invokevirtual 152, 3) := by decide +kernel
theorem dX8_planned_101 : decode cX8_planned 101 = .ok (.istore 4, 2) := by decide +kernel
theorem dX8_planned_103 : decode cX8_planned 103 = .ok (.aload_n 0, 1) := by decide +kernel
theorem dX8_planned_104 : decode cX8_planned 104 = .ok (.iload_n 3, 1) := by decide +kernel
theorem dX8_planned_105 : decode cX8_planned 105 = .ok (.invokevirtual 155, 3) := by decide +kernel
theorem dX8_planned_108 : decode cX8_planned 108 = .ok (.aload_n 0, 1) := by decide +kernel
theorem dX8_planned_109 : decode cX8_planned 109 = .ok (.getfield 7, 3) := by decide +kernel
theorem dX8_planned_112 : decode cX8_planned 112 = .ok (.sipush 164, 3) := by decide +kernel
theorem dX8_planned_115 : decode cX8_planned 115 = .ok (.iload_n 3, 1) := by decide +kernel
theorem dX8_planned_116 : decode cX8_planned 116 = .ok (.iadd, 1) := by decide +kernel
theorem dX8_planned_117 : decode cX8_planned 117 = .ok (.dup2, 1) := by decide +kernel
theorem dX8_planned_118 : decode cX8_planned 118 = .ok (.iaload, 1) := by decide +kernel
theorem dX8_planned_119 : decode cX8_planned 119 = .ok (.iconst 1, 1) := by decide +kernel
theorem dX8_planned_120 : decode cX8_planned 120 = .ok (.isub, 1) := by decide +kernel
theorem dX8_planned_121 : decode cX8_planned 121 = .ok (.iastore, 1) := by decide +kernel
theorem dX8_planned_122 : decode cX8_planned 122 = .ok (.iload 4, 2) := by decide +kernel
theorem dX8_planned_124 : decode cX8_planned 124 = .ok (.ireturn, 1) := by decide +kernel
theorem dX8_planned_125 : decode cX8_planned 125 = .ok (.aload_n 0, 1) := by decide +kernel
theorem dX8_planned_126 : decode cX8_planned 126 = .ok (.getfield 7, 3) := by decide +kernel
theorem dX8_planned_129 : decode cX8_planned 129 = .ok (.bipush 68, 2) := by decide +kernel
theorem dX8_planned_131 : decode cX8_planned 131 = .ok (.aload_n 0, 1) := by decide +kernel
theorem dX8_planned_132 : decode cX8_planned 132 = .ok (.getfield 171, 3) := by decide +kernel
theorem dX8_planned_135 : decode cX8_planned 135 = .ok (.iadd, 1) := by decide +kernel
theorem dX8_planned_136 : decode cX8_planned 136 = .ok (.dup2, 1) := by decide +kernel
theorem dX8_planned_137 : decode cX8_planned 137 = .ok (.iaload, 1) := by decide +kernel
theorem dX8_planned_138 : decode cX8_planned 138 = .ok (.iconst 1, 1) := by decide +kernel
theorem dX8_planned_139 : decode cX8_planned 139 = .ok (.iload_n 3, 1) := by decide +kernel
theorem dX8_planned_140 : decode cX8_planned 140 = .ok (.ishl, 1) := by decide +kernel
theorem dX8_planned_141 : decode cX8_planned 141 = .ok (.ior, 1) := by decide +kernel
theorem dX8_planned_142 : decode cX8_planned 142 = .ok (.iastore, 1) := by decide +kernel
theorem dX8_planned_143 : decode cX8_planned 143 = .ok (.iconst 2, 1) := by decide +kernel
theorem dX8_planned_144 : decode cX8_planned 144 = .ok (.ireturn, 1) := by decide +kernel
theorem dX8_plan_0 : decode cX8_plan 0 = .ok (.iload_n 1, 1) := by decide +kernel
theorem dX8_plan_1 : decode cX8_plan 1 = .ok (.iconst 1, 1) := by decide +kernel
theorem dX8_plan_2 : decode cX8_plan 2 = .ok (.bipush 6, 2) := by decide +kernel
theorem dX8_plan_4 : decode cX8_plan 4 = .ok (.invokestatic 30, 3) := by decide +kernel
theorem dX8_plan_7 : decode cX8_plan 7 = .ok (.ifCond .ne 6, 3) := by decide +kernel
theorem dX8_plan_10 : decode cX8_plan 10 = .ok (.bipush (-2), 2) := by decide +kernel
theorem dX8_plan_12 : decode cX8_plan 12 = .ok (.ireturn, 1) := by decide +kernel
theorem dX8_plan_13 : decode cX8_plan 13 = .ok (.aload_n 0, 1) := by decide +kernel
theorem dX8_plan_14 : decode cX8_plan 14 = .ok (.invokevirtual 105, 3) := by decide +kernel
theorem dX8_plan_17 : decode cX8_plan 17 = .ok (.ifCond .ne 12, 3) := by decide +kernel
theorem dX8_plan_20 : decode cX8_plan 20 = .ok (.aload_n 0, 1) := by decide +kernel
theorem dX8_plan_21 : decode cX8_plan 21 = .ok (.getfield 7, 3) := by decide +kernel
theorem dX8_plan_24 : decode cX8_plan 24 = .ok (.iconst 5, 1) := by decide +kernel
theorem dX8_plan_25 : decode cX8_plan 25 = .ok (.iaload, 1) := by decide +kernel
theorem dX8_plan_26 : decode cX8_plan 26 = .ok (.ifCond .ne 6, 3) := by decide +kernel
theorem dX8_plan_29 : decode cX8_plan 29 = .ok (.bipush (-4), 2) := by decide +kernel
theorem dX8_plan_31 : decode cX8_plan 31 = .ok (.ireturn, 1) := by decide +kernel
theorem dX8_plan_32 : decode cX8_plan 32 = .ok (.iconst 0, 1) := by decide +kernel
theorem dX8_plan_33 : decode cX8_plan 33 = .ok (.istore_n 2, 1) := by decide +kernel
theorem dX8_plan_34 : decode cX8_plan 34 = .ok (.iload_n 2, 1) := by decide +kernel
theorem dX8_plan_35 : decode cX8_plan 35 = .ok (.sipush 902, 3) := by decide +kernel
theorem dX8_plan_38 : decode cX8_plan 38 = .ok (.if_icmp .ge 21, 3) := by decide +kernel
theorem dX8_plan_41 : decode cX8_plan 41 = .ok (.aload_n 0, 1) := by decide +kernel
theorem dX8_plan_42 : decode cX8_plan 42 = .ok (.getfield 13, 3) := by decide +kernel
theorem dX8_plan_45 : decode cX8_plan 45 = .ok (.iload_n 2, 1) := by decide +kernel
theorem dX8_plan_46 : decode cX8_plan 46 = .ok (.aload_n 0, 1) := by decide +kernel
theorem dX8_plan_47 : decode cX8_plan 47 = .ok (.getfield 7, 3) := by decide +kernel
theorem dX8_plan_50 : decode cX8_plan 50 = .ok (.iload_n 2, 1) := by decide +kernel
theorem dX8_plan_51 : decode cX8_plan 51 = .ok (.iaload, 1) := by decide +kernel
theorem dX8_plan_52 : decode cX8_plan 52 = .ok (.iastore, 1) := by decide +kernel
theorem dX8_plan_53 : decode cX8_plan 53 = .ok (.iinc 2 1, 3) := by decide +kernel
theorem dX8_plan_56 : decode cX8_plan 56 = .ok (.goto (-22), 3) := by decide +kernel
theorem dX8_plan_59 : decode cX8_plan 59 = .ok (.aload_n 0, 1) := by decide +kernel
theorem dX8_plan_60 : decode cX8_plan 60 = .ok (.getfield 7, 3) := by decide +kernel
theorem dX8_plan_63 : decode cX8_plan 63 = .ok (.bipush 11, 2) := by decide +kernel
theorem dX8_plan_65 : decode cX8_plan 65 = .ok (.iload_n 1, 1) := by decide +kernel
theorem dX8_plan_66 : decode cX8_plan 66 = .ok (.iastore, 1) := by decide +kernel
theorem dX8_plan_67 : decode cX8_plan 67 = .ok (.iconst 0, 1) := by decide +kernel
theorem dX8_plan_68 : decode cX8_plan 68 = .ok (.istore_n 2, 1) := by decide +kernel
theorem dX8_plan_69 : decode cX8_plan 69 = .ok (.iload_n 2, 1) := by decide +kernel
theorem dX8_plan_70 : decode cX8_plan 70 = .ok (.bipush 12, 2) := by decide +kernel
theorem dX8_plan_72 : decode cX8_plan 72 = .ok (.if_icmp .ge 19, 3) := by decide +kernel
theorem dX8_plan_75 : decode cX8_plan 75 = .ok (.aload_n 0, 1) := by decide +kernel
theorem dX8_plan_76 : decode cX8_plan 76 = .ok (.getfield 7, 3) := by decide +kernel
theorem dX8_plan_79 : decode cX8_plan 79 = .ok (.bipush 68, 2) := by decide +kernel
theorem dX8_plan_81 : decode cX8_plan 81 = .ok (.iload_n 2, 1) := by decide +kernel
theorem dX8_plan_82 : decode cX8_plan 82 = .ok (.iadd, 1) := by decide +kernel
theorem dX8_plan_83 : decode cX8_plan 83 = .ok (.iconst 0, 1) := by decide +kernel
theorem dX8_plan_84 : decode cX8_plan 84 = .ok (.iastore, 1) := by decide +kernel
theorem dX8_plan_85 : decode cX8_plan 85 = .ok (.iinc 2 1, 3) := by decide +kernel
theorem dX8_plan_88 : decode cX8_plan 88 = .ok (.goto (-19), 3) := by decide +kernel
theorem dX8_plan_91 : decode cX8_plan 91 = .ok (.iconst 0, 1) := by decide +kernel
theorem dX8_plan_92 : decode cX8_plan 92 = .ok (.istore_n 2, 1) := by decide +kernel
theorem dX8_plan_93 : decode cX8_plan 93 = .ok (.iload_n 2, 1) := by decide +kernel
theorem dX8_plan_94 : decode cX8_plan 94 = .ok (.ifCond .lt 41, 3) := by decide +kernel
theorem dX8_plan_97 : decode cX8_plan 97 = .ok (.aload_n 0, 1) := by decide +kernel
theorem dX8_plan_98 : decode cX8_plan 98 = .ok (.aload_n 0, 1) := by decide +kernel
theorem dX8_plan_99 : decode cX8_plan 99 = .ok (.getfield 7, 3) := by decide +kernel
theorem dX8_plan_102 : decode cX8_plan 102 = .ok (.iconst 5, 1) := by decide +kernel
theorem dX8_plan_103 : decode cX8_plan 103 = .ok (.iaload, 1) := by decide +kernel
theorem dX8_plan_104 : decode cX8_plan 104 = .ok (.invokevirtual 34, 3) := by decide +kernel
theorem dX8_plan_107 : decode cX8_plan 107 = .ok (.ifCond .ne 28, 3) := by decide +kernel
theorem dX8_plan_110 : decode cX8_plan 110 = .ok (.aload_n 0, 1) := by decide +kernel
theorem dX8_plan_111 : decode cX8_plan 111 = .ok (.invokevirtual 180, 3) := by decide +kernel
theorem dX8_plan_114 : decode cX8_plan 114 = .ok (.istore_n 3, 1) := by decide +kernel
theorem dX8_plan_115 : decode cX8_plan 115 = .ok (.iload_n 3, 1) := by decide +kernel
theorem dX8_plan_116 : decode cX8_plan 116 = .ok (.ifCond .ge 8, 3) := by decide +kernel
theorem dX8_plan_119 : decode cX8_plan 119 = .ok (.bipush (-5), 2) := by decide +kernel
theorem dX8_plan_121 : decode cX8_plan 121 = .ok (.goto 10, 3) := by decide +kernel
theorem dX8_plan_124 : decode cX8_plan 124 = .ok (.iload_n 2, 1) := by decide +kernel
theorem dX8_plan_125 : decode cX8_plan 125 = .ok (.aload_n 0, 1) := by decide +kernel
theorem dX8_plan_126 : decode cX8_plan 126 = .ok (.iload_n 3, 1) := by decide +kernel
theorem dX8_plan_127 : decode cX8_plan 127 = .ok (.invokevirtual 183, 3) := by decide +kernel
theorem dX8_plan_130 : decode cX8_plan 130 = .ok (.iadd, 1) := by decide +kernel
theorem dX8_plan_131 : decode cX8_plan 131 = .ok (.istore_n 2, 1) := by decide +kernel
theorem dX8_plan_132 : decode cX8_plan 132 = .ok (.goto (-39), 3) := by decide +kernel
theorem dX8_plan_135 : decode cX8_plan 135 = .ok (.iconst 0, 1) := by decide +kernel
theorem dX8_plan_136 : decode cX8_plan 136 = .ok (.istore_n 3, 1) := by decide +kernel
theorem dX8_plan_137 : decode cX8_plan 137 = .ok (.iload_n 3, 1) := by decide +kernel
theorem dX8_plan_138 : decode cX8_plan 138 = .ok (.sipush 902, 3) := by decide +kernel
theorem dX8_plan_141 : decode cX8_plan 141 = .ok (.if_icmp .ge 21, 3) := by decide +kernel
theorem dX8_plan_144 : decode cX8_plan 144 = .ok (.aload_n 0, 1) := by decide +kernel
theorem dX8_plan_145 : decode cX8_plan 145 = .ok (.getfield 7, 3) := by decide +kernel
theorem dX8_plan_148 : decode cX8_plan 148 = .ok (.iload_n 3, 1) := by decide +kernel
theorem dX8_plan_149 : decode cX8_plan 149 = .ok (.aload_n 0, 1) := by decide +kernel
theorem dX8_plan_150 : decode cX8_plan 150 = .ok (.getfield 13, 3) := by decide +kernel
theorem dX8_plan_153 : decode cX8_plan 153 = .ok (.iload_n 3, 1) := by decide +kernel
theorem dX8_plan_154 : decode cX8_plan 154 = .ok (.iaload, 1) := by decide +kernel
theorem dX8_plan_155 : decode cX8_plan 155 = .ok (.iastore, 1) := by decide +kernel
theorem dX8_plan_156 : decode cX8_plan 156 = .ok (.iinc 3 1, 3) := by decide +kernel
theorem dX8_plan_159 : decode cX8_plan 159 = .ok (.goto (-22), 3) := by decide +kernel
theorem dX8_plan_162 : decode cX8_plan 162 = .ok (.iload_n 2, 1) := by decide +kernel
theorem dX8_plan_163 : decode cX8_plan 163 = .ok (.ireturn, 1) := by decide +kernel
theorem dX8_idle_0 : decode cX8_idle 0 = .ok (.iload_n 1, 1) := by decide +kernel
theorem dX8_idle_1 : decode cX8_idle 1 = .ok (.iconst 1, 1) := by decide +kernel
theorem dX8_idle_2 : decode cX8_idle 2 = .ok (.sipush 1000, 3) := by decide +kernel
theorem dX8_idle_5 : decode cX8_idle 5 = .ok (.invokestatic 30, 3) := by decide +kernel
theorem dX8_idle_8 : decode cX8_idle 8 = .ok (.ifCond .ne 6, 3) := by decide +kernel
theorem dX8_idle_11 : decode cX8_idle 11 = .ok (.bipush (-2), 2) := by decide +kernel
theorem dX8_idle_13 : decode cX8_idle 13 = .ok (.ireturn, 1) := by decide +kernel
theorem dX8_idle_14 : decode cX8_idle 14 = .ok (.aload_n 0, 1) := by decide +kernel
theorem dX8_idle_15 : decode cX8_idle 15 = .ok (.invokevirtual 105, 3) := by decide +kernel
theorem dX8_idle_18 : decode cX8_idle 18 = .ok (.ifCond .eq 6, 3) := by decide +kernel
theorem dX8_idle_21 : decode cX8_idle 21 = .ok (.bipush (-4), 2) := by decide +kernel
theorem dX8_idle_23 : decode cX8_idle 23 = .ok (.ireturn, 1) := by decide +kernel
theorem dX8_idle_24 : decode cX8_idle 24 = .ok (.aload_n 0, 1) := by decide +kernel
theorem dX8_idle_25 : decode cX8_idle 25 = .ok (.iload_n 1, 1) := by decide +kernel
theorem dX8_idle_26 : decode cX8_idle 26 = .ok (.invokevirtual 115, 3) := by decide +kernel
theorem dX8_idle_29 : decode cX8_idle 29 = .ok (.aload_n 0, 1) := by decide +kernel
theorem dX8_idle_30 : decode cX8_idle 30 = .ok (.getfield 7, 3) := by decide +kernel
theorem dX8_idle_33 : decode cX8_idle 33 = .ok (.bipush 9, 2) := by decide +kernel
theorem dX8_idle_35 : decode cX8_idle 35 = .ok (.iaload, 1) := by decide +kernel
theorem dX8_idle_36 : decode cX8_idle 36 = .ok (.ireturn, 1) := by decide +kernel
theorem dX8_putHome_0 : decode cX8_putHome 0 = .ok (.aload_n 0, 1) := by decide +kernel
theorem dX8_putHome_1 : decode cX8_putHome 1 = .ok (.iload_n 1, 1) := by decide +kernel
theorem dX8_putHome_2 : decode cX8_putHome 2 = .ok (.invokevirtual 102, 3) := by decide +kernel
theorem dX8_putHome_5 : decode cX8_putHome 5 = .ok (.ifCond .eq 5, 3) := by decide +kernel
theorem dX8_putHome_8 : decode cX8_putHome 8 = .ok (.iconst (-1), 1) := by decide +kernel
theorem dX8_putHome_9 : decode cX8_putHome 9 = .ok (.ireturn, 1) := by decide +kernel
theorem dX8_putHome_10 : decode cX8_putHome 10 = .ok (.aload_n 0, 1) := by decide +kernel
theorem dX8_putHome_11 : decode cX8_putHome 11 = .ok (.invokevirtual 105, 3) := by decide +kernel
theorem dX8_putHome_14 : decode cX8_putHome 14 = .ok (.ifCond .eq 6, 3) := by decide +kernel
theorem dX8_putHome_17 : decode cX8_putHome 17 = .ok (.bipush (-4), 2) := by decide +kernel
theorem dX8_putHome_19 : decode cX8_putHome 19 = .ok (.ireturn, 1) := by decide +kernel
theorem dX8_putHome_20 : decode cX8_putHome 20 = .ok (.aload_n 0, 1) := by decide +kernel
theorem dX8_putHome_21 : decode cX8_putHome 21 = .ok (.getfield 7, 3) := by decide +kernel
theorem dX8_putHome_24 : decode cX8_putHome 24 = .ok (.bipush 104, 2) := by decide +kernel
theorem dX8_putHome_26 : decode cX8_putHome 26 = .ok (.iload_n 1, 1) := by decide +kernel
theorem dX8_putHome_27 : decode cX8_putHome 27 = .ok (.iadd, 1) := by decide +kernel
theorem dX8_putHome_28 : decode cX8_putHome 28 = .ok (.iaload, 1) := by decide +kernel
theorem dX8_putHome_29 : decode cX8_putHome 29 = .ok (.istore_n 2, 1) := by decide +kernel
theorem dX8_putHome_30 : decode cX8_putHome 30 = .ok (.iload_n 2, 1) := by decide +kernel
theorem dX8_putHome_31 : decode cX8_putHome 31 = .ok (.aload_n 0, 1) := by decide +kernel
theorem dX8_putHome_32 : decode cX8_putHome 32 = .ok (.getfield 7, 3) := by decide +kernel
theorem dX8_putHome_35 : decode cX8_putHome 35 = .ok (.bipush 80, 2) := by decide +kernel
theorem dX8_putHome_37 : decode cX8_putHome 37 = .ok (.iload_n 1, 1) := by decide +kernel
theorem dX8_putHome_38 : decode cX8_putHome 38 = .ok (.iadd, 1) := by decide +kernel
theorem dX8_putHome_39 : decode cX8_putHome 39 = .ok (.iaload, 1) := by decide +kernel
theorem dX8_putHome_40 : decode cX8_putHome 40 = .ok (.if_icmp .ne 6, 3) := by decide +kernel
theorem dX8_putHome_43 : decode cX8_putHome 43 = .ok (.bipush (-5), 2) := by decide +kernel
theorem dX8_putHome_45 : decode cX8_putHome 45 = .ok (.ireturn, 1) := by decide +kernel
theorem dX8_putHome_46 : decode cX8_putHome 46 = .ok (.aload_n 0, 1) := by decide +kernel
theorem dX8_putHome_47 : decode cX8_putHome 47 = .ok (.getfield 7, 3) := by decide +kernel
theorem dX8_putHome_50 : decode cX8_putHome 50 = .ok (.bipush 104, 2) := by decide +kernel
theorem dX8_putHome_52 : decode cX8_putHome 52 = .ok (.iload_n 1, 1) := by decide +kernel
theorem dX8_putHome_53 : decode cX8_putHome 53 = .ok (.iadd, 1) := by decide +kernel
theorem dX8_putHome_54 : decode cX8_putHome 54 = .ok (.aload_n 0, 1) := by decide +kernel
theorem dX8_putHome_55 : decode cX8_putHome 55 = .ok (.getfield 7, 3) := by decide +kernel
theorem dX8_putHome_58 : decode cX8_putHome 58 = .ok (.bipush 80, 2) := by decide +kernel
theorem dX8_putHome_60 : decode cX8_putHome 60 = .ok (.iload_n 1, 1) := by decide +kernel
theorem dX8_putHome_61 : decode cX8_putHome 61 = .ok (.iadd, 1) := by decide +kernel
theorem dX8_putHome_62 : decode cX8_putHome 62 = .ok (.iaload, 1) := by decide +kernel
theorem dX8_putHome_63 : decode cX8_putHome 63 = .ok (.iastore, 1) := by decide +kernel
theorem dX8_putHome_64 : decode cX8_putHome 64 = .ok (.aload_n 0, 1) := by decide +kernel
theorem dX8_putHome_65 : decode cX8_putHome 65 = .ok (.iconst 1, 1) := by decide +kernel
theorem dX8_putHome_66 : decode cX8_putHome 66 = .ok (.invokevirtual 115, 3) := by decide +kernel
theorem dX8_putHome_69 : decode cX8_putHome 69 = .ok (.iload_n 2, 1) := by decide +kernel
theorem dX8_putHome_70 : decode cX8_putHome 70 = .ok (.ireturn, 1) := by decide +kernel
theorem dX8_close_0 : decode cX8_close 0 = .ok (.aload_n 0, 1) := by decide +kernel
theorem dX8_close_1 : decode cX8_close 1 = .ok (.iload_n 1, 1) := by decide +kernel
theorem dX8_close_2 : decode cX8_close 2 = .ok (.invokevirtual 99, 3) := by decide +kernel
theorem dX8_close_5 : decode cX8_close 5 = .ok (.ifCond .eq 5, 3) := by decide +kernel
theorem dX8_close_8 : decode cX8_close 8 = .ok (.iconst (-1), 1) := by decide +kernel
theorem dX8_close_9 : decode cX8_close 9 = .ok (.ireturn, 1) := by decide +kernel
theorem dX8_close_10 : decode cX8_close 10 = .ok (.iload_n 1, 1) := by decide +kernel
theorem dX8_close_11 : decode cX8_close 11 = .ok (.ifCond .ne 6, 3) := by decide +kernel
theorem dX8_close_14 : decode cX8_close 14 = .ok (.bipush (-2), 2) := by decide +kernel
theorem dX8_close_16 : decode cX8_close 16 = .ok (.ireturn, 1) := by decide +kernel
theorem dX8_close_17 : decode cX8_close 17 = .ok (.aload_n 0, 1) := by decide +kernel
theorem dX8_close_18 : decode cX8_close 18 = .ok (.invokevirtual 105, 3) := by decide +kernel
theorem dX8_close_21 : decode cX8_close 21 = .ok (.ifCond .eq 6, 3) := by decide +kernel
theorem dX8_close_24 : decode cX8_close 24 = .ok (.bipush (-4), 2) := by decide +kernel
theorem dX8_close_26 : decode cX8_close 26 = .ok (.ireturn, 1) := by decide +kernel
theorem dX8_close_27 : decode cX8_close 27 = .ok (.aload_n 0, 1) := by decide +kernel
theorem dX8_close_28 : decode cX8_close 28 = .ok (.iload_n 1, 1) := by decide +kernel
theorem dX8_close_29 : decode cX8_close 29 = .ok (.invokevirtual 34, 3) := by decide +kernel
theorem dX8_close_32 : decode cX8_close 32 = .ok (.ifCond .ne 6, 3) := by decide +kernel
theorem dX8_close_35 : decode cX8_close 35 = .ok (.bipush (-5), 2) := by decide +kernel
theorem dX8_close_37 : decode cX8_close 37 = .ok (.ireturn, 1) := by decide +kernel
theorem dX8_close_38 : decode cX8_close 38 = .ok (.aload_n 0, 1) := by decide +kernel
theorem dX8_close_39 : decode cX8_close 39 = .ok (.getfield 7, 3) := by decide +kernel
theorem dX8_close_42 : decode cX8_close 42 = .ok (.bipush 56, 2) := by decide +kernel
theorem dX8_close_44 : decode cX8_close 44 = .ok (.iload_n 1, 1) := by decide +kernel
theorem dX8_close_45 : decode cX8_close 45 = .ok (.iadd, 1) := by decide +kernel
theorem dX8_close_46 : decode cX8_close 46 = .ok (.iconst 0, 1) := by decide +kernel
theorem dX8_close_47 : decode cX8_close 47 = .ok (.iastore, 1) := by decide +kernel
theorem dX8_close_48 : decode cX8_close 48 = .ok (.aload_n 0, 1) := by decide +kernel
theorem dX8_close_49 : decode cX8_close 49 = .ok (.iconst 1, 1) := by decide +kernel
theorem dX8_close_50 : decode cX8_close 50 = .ok (.invokevirtual 115, 3) := by decide +kernel
theorem dX8_close_53 : decode cX8_close 53 = .ok (.aload_n 0, 1) := by decide +kernel
theorem dX8_close_54 : decode cX8_close 54 = .ok (.invokevirtual 121, 3) := by decide +kernel
theorem dX8_close_57 : decode cX8_close 57 = .ok (.ireturn, 1) := by decide +kernel
theorem dX8_writeOver_0 : decode cX8_writeOver 0 = .ok (.aload_n 0, 1) := by decide +kernel
theorem dX8_writeOver_1 : decode cX8_writeOver 1 = .ok (.iload_n 1, 1) := by decide +kernel
theorem dX8_writeOver_2 : decode cX8_writeOver 2 = .ok (.invokevirtual 149, 3) := by decide +kernel
theorem dX8_writeOver_5 : decode cX8_writeOver 5 = .ok (.ifCond .eq 5, 3) := by decide +kernel
theorem dX8_writeOver_8 : decode cX8_writeOver 8 = .ok (.iconst (-1), 1) := by decide +kernel
theorem dX8_writeOver_9 : decode cX8_writeOver 9 = .ok (.ireturn, 1) := by decide +kernel
theorem dX8_writeOver_10 : decode cX8_writeOver 10 = .ok (.bipush 9, 2) := by decide +kernel
theorem dX8_writeOver_12 : decode cX8_writeOver 12 = .ok (.aload_n 0, 1) := by decide +kernel
theorem dX8_writeOver_13 : decode cX8_writeOver 13 = .ok (.getfield 7, 3) := by decide +kernel
theorem dX8_writeOver_16 : decode cX8_writeOver 16 = .ok (.sipush 164, 3) := by decide +kernel
theorem dX8_writeOver_19 : decode cX8_writeOver 19 = .ok (.iload_n 1, 1) := by decide +kernel
theorem dX8_writeOver_20 : decode cX8_writeOver 20 = .ok (.iadd, 1) := by decide +kernel
theorem dX8_writeOver_21 : decode cX8_writeOver 21 = .ok (.iaload, 1) := by decide +kernel
theorem dX8_writeOver_22 : decode cX8_writeOver 22 = .ok (.isub, 1) := by decide +kernel
theorem dX8_writeOver_23 : decode cX8_writeOver 23 = .ok (.istore_n 2, 1) := by decide +kernel
theorem dX8_writeOver_24 : decode cX8_writeOver 24 = .ok (.aload_n 0, 1) := by decide +kernel
theorem dX8_writeOver_25 : decode cX8_writeOver 25 = .ok (.invokevirtual 105, 3) := by decide +kernel
theorem dX8_writeOver_28 : decode cX8_writeOver 28 = .ok (.ifCond .ne 14, 3) := by decide +kernel
theorem dX8_writeOver_31 : decode cX8_writeOver 31 = .ok (.iload_n 2, 1) := by decide +kernel
theorem dX8_writeOver_32 : decode cX8_writeOver 32 = .ok (.aload_n 0, 1) := by decide +kernel
theorem dX8_writeOver_33 : decode cX8_writeOver 33 = .ok (.getfield 7, 3) := by decide +kernel
theorem dX8_writeOver_36 : decode cX8_writeOver 36 = .ok (.bipush 8, 2) := by decide +kernel
theorem dX8_writeOver_38 : decode cX8_writeOver 38 = .ok (.iaload, 1) := by decide +kernel
theorem dX8_writeOver_39 : decode cX8_writeOver 39 = .ok (.if_icmp .le 6, 3) := by decide +kernel
theorem dX8_writeOver_42 : decode cX8_writeOver 42 = .ok (.bipush (-4), 2) := by decide +kernel
theorem dX8_writeOver_44 : decode cX8_writeOver 44 = .ok (.ireturn, 1) := by decide +kernel
theorem dX8_writeOver_45 : decode cX8_writeOver 45 = .ok (.iload_n 2, 1) := by decide +kernel
theorem dX8_writeOver_46 : decode cX8_writeOver 46 = .ok (.ifCond .ne 6, 3) := by decide +kernel
theorem dX8_writeOver_49 : decode cX8_writeOver 49 = .ok (.bipush (-5), 2) := by decide +kernel
theorem dX8_writeOver_51 : decode cX8_writeOver 51 = .ok (.ireturn, 1) := by decide +kernel
theorem dX8_writeOver_52 : decode cX8_writeOver 52 = .ok (.aload_n 0, 1) := by decide +kernel
theorem dX8_writeOver_53 : decode cX8_writeOver 53 = .ok (.getfield 7, 3) := by decide +kernel
theorem dX8_writeOver_56 : decode cX8_writeOver 56 = .ok (.sipush 164, 3) := by decide +kernel
theorem dX8_writeOver_59 : decode cX8_writeOver 59 = .ok (.iload_n 1, 1) := by decide +kernel
theorem dX8_writeOver_60 : decode cX8_writeOver 60 = .ok (.iadd, 1) := by decide +kernel
theorem dX8_writeOver_61 : decode cX8_writeOver 61 = .ok (.bipush 9, 2) := by decide +kernel
theorem dX8_writeOver_63 : decode cX8_writeOver 63 = .ok (.iastore, 1) := by decide +kernel
theorem dX8_writeOver_64 : decode cX8_writeOver 64 = .ok (.aload_n 0, 1) := by decide +kernel
theorem dX8_writeOver_65 : decode cX8_writeOver 65 = .ok (.getfield 7, 3) := by decide +kernel
theorem dX8_writeOver_68 : decode cX8_writeOver 68 = .ok (.bipush 8, 2) := by decide +kernel
theorem dX8_writeOver_70 : decode cX8_writeOver 70 = .ok (.dup2, 1) := by decide +kernel
theorem dX8_writeOver_71 : decode cX8_writeOver 71 = .ok (.iaload, 1) := by decide +kernel
theorem dX8_writeOver_72 : decode cX8_writeOver 72 = .ok (.iload_n 2, 1) := by decide +kernel
theorem dX8_writeOver_73 : decode cX8_writeOver 73 = .ok (.isub, 1) := by decide +kernel
theorem dX8_writeOver_74 : decode cX8_writeOver 74 = .ok (.iastore, 1) := by decide +kernel
theorem dX8_writeOver_75 : decode cX8_writeOver 75 = .ok (.aload_n 0, 1) := by decide +kernel
theorem dX8_writeOver_76 : decode cX8_writeOver 76 = .ok (.iconst 1, 1) := by decide +kernel
theorem dX8_writeOver_77 : decode cX8_writeOver 77 = .ok (.invokevirtual 115, 3) := by decide +kernel
theorem dX8_writeOver_80 : decode cX8_writeOver 80 = .ok (.iload_n 2, 1) := by decide +kernel
theorem dX8_writeOver_81 : decode cX8_writeOver 81 = .ok (.ireturn, 1) := by decide +kernel
theorem dX8_written_0 : decode cX8_written 0 = .ok (.iconst 0, 1) := by decide +kernel
theorem dX8_written_1 : decode cX8_written 1 = .ok (.istore_n 3, 1) := by decide +kernel
theorem dX8_written_2 : decode cX8_written 2 = .ok (.iconst 0, 1) := by decide +kernel
theorem dX8_written_3 : decode cX8_written 3 = .ok (.istore 4, 2) := by decide +kernel
theorem dX8_written_5 : decode cX8_written 5 = .ok (.iconst 0, 1) := by decide +kernel
theorem dX8_written_6 : decode cX8_written 6 = .ok (.istore 5, 2) := by decide +kernel
theorem dX8_written_8 : decode cX8_written 8 = .ok (.iload 5, 2) := by decide +kernel
theorem dX8_written_10 : decode cX8_written 10 = .ok (.aload_n 0, 1) := by decide +kernel
theorem dX8_written_11 : decode cX8_written 11 = .ok (.getfield 7, 3) := by decide +kernel
theorem dX8_written_14 : decode cX8_written 14 = .ok (.iconst 2, 1) := by decide +kernel
theorem dX8_written_15 : decode cX8_written 15 = .ok (.iaload, 1) := by decide +kernel
theorem dX8_written_16 : decode cX8_written 16 = .ok (.if_icmp .ge 87, 3) := by decide +kernel
theorem dX8_written_19 : decode cX8_written 19 = .ok (.bipush 9, 2) := by decide +kernel
theorem dX8_written_21 : decode cX8_written 21 = .ok (.aload_n 0, 1) := by decide +kernel
theorem dX8_written_22 : decode cX8_written 22 = .ok (.getfield 7, 3) := by decide +kernel
theorem dX8_written_25 : decode cX8_written 25 = .ok (.sipush 164, 3) := by decide +kernel
theorem dX8_written_28 : decode cX8_written 28 = .ok (.iload 5, 2) := by decide +kernel
theorem dX8_written_30 : decode cX8_written 30 = .ok (.iadd, 1) := by decide +kernel
theorem dX8_written_31 : decode cX8_written 31 = .ok (.iaload, 1) := by decide +kernel
theorem dX8_written_32 : decode cX8_written 32 = .ok (.isub, 1) := by decide +kernel
theorem dX8_written_33 : decode cX8_written 33 = .ok (.istore 6, 2) := by decide +kernel
theorem dX8_written_35 : decode cX8_written 35 = .ok (.iload 6, 2) := by decide +kernel
theorem dX8_written_37 : decode cX8_written 37 = .ok (.iconst 5, 1) := by decide +kernel
theorem dX8_written_38 : decode cX8_written 38 = .ok (.if_icmp .le 59, 3) := by decide +kernel
theorem dX8_written_41 : decode cX8_written 41 = .ok (.iload 6, 2) := by decide +kernel
theorem dX8_written_43 : decode cX8_written 43 = .ok (.aload_n 0, 1) := by decide +kernel
theorem dX8_written_44 : decode cX8_written 44 = .ok (.getfield 7, 3) := by decide +kernel
theorem dX8_written_47 : decode cX8_written 47 = .ok (.bipush 8, 2) := by decide +kernel
theorem dX8_written_49 : decode cX8_written 49 = .ok (.iaload, 1) := by decide +kernel
theorem dX8_written_50 : decode cX8_written 50 = .ok (.iload 4, 2) := by decide +kernel
theorem dX8_written_52 : decode cX8_written 52 = .ok (.isub, 1) := by decide +kernel
theorem dX8_written_53 : decode cX8_written 53 = .ok (.if_icmp .gt 44, 3) := by decide +kernel
theorem dX8_written_56 : decode cX8_written 56 = .ok (.iinc 3 1, 3) := by decide +kernel
theorem dX8_written_59 : decode cX8_written 59 = .ok (.iload 4, 2) := by decide +kernel
theorem dX8_written_61 : decode cX8_written 61 = .ok (.iload 6, 2) := by decide +kernel
theorem dX8_written_63 : decode cX8_written 63 = .ok (.iadd, 1) := by decide +kernel
theorem dX8_written_64 : decode cX8_written 64 = .ok (.istore 4, 2) := by decide +kernel
theorem dX8_written_66 : decode cX8_written 66 = .ok (.aload_n 0, 1) := by decide +kernel
theorem dX8_written_67 : decode cX8_written 67 = .ok (.getfield 7, 3) := by decide +kernel
theorem dX8_written_70 : decode cX8_written 70 = .ok (.sipush 164, 3) := by decide +kernel
theorem dX8_written_73 : decode cX8_written 73 = .ok (.iload 5, 2) := by decide +kernel
theorem dX8_written_75 : decode cX8_written 75 = .ok (.iadd, 1) := by decide +kernel
theorem dX8_written_76 : decode cX8_written 76 = .ok (.iload_n 2, 1) := by decide +kernel
theorem dX8_written_77 : decode cX8_written 77 = .ok (.ifCond .eq 8, 3) := by decide +kernel
theorem dX8_written_80 : decode cX8_written 80 = .ok (.bipush 9, 2) := by decide +kernel
theorem dX8_written_82 : decode cX8_written 82 = .ok (.goto 14, 3) := by decide +kernel
theorem dX8_written_85 : decode cX8_written 85 = .ok (.aload_n 0, 1) := by decide +kernel
theorem dX8_written_86 : decode cX8_written 86 = .ok (.getfield 7, 3) := by decide +kernel
theorem dX8_written_89 : decode cX8_written 89 = .ok (.sipush 164, 3) := by decide +kernel
theorem dX8_written_92 : decode cX8_written 92 = .ok (.iload 5, 2) := by decide +kernel
theorem dX8_written_94 : decode cX8_written 94 = .ok (.iadd, 1) := by decide +kernel
theorem dX8_written_95 : decode cX8_written 95 = .ok (.iaload, 1) := by decide +kernel
theorem dX8_written_96 : decode cX8_written 96 = .ok (.iastore, 1) := by decide +kernel
theorem dX8_written_97 : decode cX8_written 97 = .ok (.iinc 5 1, 3) := by decide +kernel
theorem dX8_written_100 : decode cX8_written 100 = .ok (.goto (-92), 3) := by decide +kernel
theorem dX8_written_103 : decode cX8_written 103 = .ok (.aload_n 0, 1) := by decide +kernel
theorem dX8_written_104 : decode cX8_written 104 = .ok (.getfield 7, 3) := by decide +kernel
theorem dX8_written_107 : decode cX8_written 107 = .ok (.bipush 8, 2) := by decide +kernel
theorem dX8_written_109 : decode cX8_written 109 = .ok (.dup2, 1) := by decide +kernel
theorem dX8_written_110 : decode cX8_written 110 = .ok (.iaload, 1) := by decide +kernel
theorem dX8_written_111 : decode cX8_written 111 = .ok (.iload_n 2, 1) := by decide +kernel
theorem dX8_written_112 : decode cX8_written 112 = .ok (.ifCond .eq 8, 3) := by decide +kernel
theorem dX8_written_115 : decode cX8_written 115 = .ok (.iload 4, 2) := by decide +kernel
theorem dX8_written_117 : decode cX8_written 117 = .ok (.goto 4, 3) := by decide +kernel
theorem dX8_written_120 : decode cX8_written 120 = .ok (.iconst 0, 1) := by decide +kernel
theorem dX8_written_121 : decode cX8_written 121 = .ok (.isub, 1) := by decide +kernel
theorem dX8_written_122 : decode cX8_written 122 = .ok (.iastore, 1) := by decide +kernel
theorem dX8_written_123 : decode cX8_written 123 = .ok (.iload_n 1, 1) := by decide +kernel
theorem dX8_written_124 : decode cX8_written 124 = .ok (.ifCond .eq 8, 3) := by decide +kernel
theorem dX8_written_127 : decode cX8_written 127 = .ok (.iload 4, 2) := by decide +kernel
theorem dX8_written_129 : decode cX8_written 129 = .ok (.goto 4, 3) := by decide +kernel
theorem dX8_written_132 : decode cX8_written 132 = .ok (.iload_n 3, 1) := by decide +kernel
theorem dX8_written_133 : decode cX8_written 133 = .ok (.ireturn, 1) := by decide +kernel
theorem dX8_resetMinutes_0 : decode cX8_resetMinutes 0 = .ok (.aload_n 0, 1) := by decide +kernel
theorem dX8_resetMinutes_1 : decode cX8_resetMinutes 1 = .ok (.invokevirtual 118, 3) := by decide +kernel
theorem dX8_resetMinutes_4 : decode cX8_resetMinutes 4 = .ok (.aload_n 0, 1) := by decide +kernel
theorem dX8_resetMinutes_5 : decode cX8_resetMinutes 5 = .ok (.invokevirtual 121, 3) := by decide +kernel
theorem dX8_resetMinutes_8 : decode cX8_resetMinutes 8 = .ok (.iadd, 1) := by decide +kernel
theorem dX8_resetMinutes_9 : decode cX8_resetMinutes 9 = .ok (.aload_n 0, 1) := by decide +kernel
theorem dX8_resetMinutes_10 : decode cX8_resetMinutes 10 = .ok (.iconst 0, 1) := by decide +kernel
theorem dX8_resetMinutes_11 : decode cX8_resetMinutes 11 = .ok (.iconst 0, 1) := by decide +kernel
theorem dX8_resetMinutes_12 : decode cX8_resetMinutes 12 = .ok (.invokevirtual 186, 3) := by decide +kernel
theorem dX8_resetMinutes_15 : decode cX8_resetMinutes 15 = .ok (.iadd, 1) := by decide +kernel
theorem dX8_resetMinutes_16 : decode cX8_resetMinutes 16 = .ok (.ireturn, 1) := by decide +kernel
theorem dX8_reset_0 : decode cX8_reset 0 = .ok (.aload_n 0, 1) := by decide +kernel
theorem dX8_reset_1 : decode cX8_reset 1 = .ok (.invokevirtual 105, 3) := by decide +kernel
theorem dX8_reset_4 : decode cX8_reset 4 = .ok (.ifCond .eq 6, 3) := by decide +kernel
theorem dX8_reset_7 : decode cX8_reset 7 = .ok (.bipush (-4), 2) := by decide +kernel
theorem dX8_reset_9 : decode cX8_reset 9 = .ok (.ireturn, 1) := by decide +kernel
theorem dX8_reset_10 : decode cX8_reset 10 = .ok (.aload_n 0, 1) := by decide +kernel
theorem dX8_reset_11 : decode cX8_reset 11 = .ok (.invokevirtual 190, 3) := by decide +kernel
theorem dX8_reset_14 : decode cX8_reset 14 = .ok (.istore_n 1, 1) := by decide +kernel
theorem dX8_reset_15 : decode cX8_reset 15 = .ok (.iload_n 1, 1) := by decide +kernel
theorem dX8_reset_16 : decode cX8_reset 16 = .ok (.ifCond .ne 6, 3) := by decide +kernel
theorem dX8_reset_19 : decode cX8_reset 19 = .ok (.bipush (-5), 2) := by decide +kernel
theorem dX8_reset_21 : decode cX8_reset 21 = .ok (.ireturn, 1) := by decide +kernel
theorem dX8_reset_22 : decode cX8_reset 22 = .ok (.iconst 0, 1) := by decide +kernel
theorem dX8_reset_23 : decode cX8_reset 23 = .ok (.istore_n 2, 1) := by decide +kernel
theorem dX8_reset_24 : decode cX8_reset 24 = .ok (.iload_n 2, 1) := by decide +kernel
theorem dX8_reset_25 : decode cX8_reset 25 = .ok (.aload_n 0, 1) := by decide +kernel
theorem dX8_reset_26 : decode cX8_reset 26 = .ok (.getfield 7, 3) := by decide +kernel
theorem dX8_reset_29 : decode cX8_reset 29 = .ok (.iconst 1, 1) := by decide +kernel
theorem dX8_reset_30 : decode cX8_reset 30 = .ok (.iaload, 1) := by decide +kernel
theorem dX8_reset_31 : decode cX8_reset 31 = .ok (.if_icmp .ge 27, 3) := by decide +kernel
theorem dX8_reset_34 : decode cX8_reset 34 = .ok (.aload_n 0, 1) := by decide +kernel
theorem dX8_reset_35 : decode cX8_reset 35 = .ok (.getfield 7, 3) := by decide +kernel
theorem dX8_reset_38 : decode cX8_reset 38 = .ok (.bipush 104, 2) := by decide +kernel
theorem dX8_reset_40 : decode cX8_reset 40 = .ok (.iload_n 2, 1) := by decide +kernel
theorem dX8_reset_41 : decode cX8_reset 41 = .ok (.iadd, 1) := by decide +kernel
theorem dX8_reset_42 : decode cX8_reset 42 = .ok (.aload_n 0, 1) := by decide +kernel
theorem dX8_reset_43 : decode cX8_reset 43 = .ok (.getfield 7, 3) := by decide +kernel
theorem dX8_reset_46 : decode cX8_reset 46 = .ok (.bipush 80, 2) := by decide +kernel
theorem dX8_reset_48 : decode cX8_reset 48 = .ok (.iload_n 2, 1) := by decide +kernel
theorem dX8_reset_49 : decode cX8_reset 49 = .ok (.iadd, 1) := by decide +kernel
theorem dX8_reset_50 : decode cX8_reset 50 = .ok (.iaload, 1) := by decide +kernel
theorem dX8_reset_51 : decode cX8_reset 51 = .ok (.iastore, 1) := by decide +kernel
theorem dX8_reset_52 : decode cX8_reset 52 = .ok (.iinc 2 1, 3) := by decide +kernel
theorem dX8_reset_55 : decode cX8_reset 55 = .ok (.goto (-31), 3) := by decide +kernel
theorem dX8_reset_58 : decode cX8_reset 58 = .ok (.iconst 1, 1) := by decide +kernel
theorem dX8_reset_59 : decode cX8_reset 59 = .ok (.istore_n 2, 1) := by decide +kernel
theorem dX8_reset_60 : decode cX8_reset 60 = .ok (.iload_n 2, 1) := by decide +kernel
theorem dX8_reset_61 : decode cX8_reset 61 = .ok (.aload_n 0, 1) := by decide +kernel
theorem dX8_reset_62 : decode cX8_reset 62 = .ok (.getfield 7, 3) := by decide +kernel
theorem dX8_reset_65 : decode cX8_reset 65 = .ok (.iconst 0, 1) := by decide +kernel
theorem dX8_reset_66 : decode cX8_reset 66 = .ok (.iaload, 1) := by decide +kernel
theorem dX8_reset_67 : decode cX8_reset 67 = .ok (.if_icmp .ge 19, 3) := by decide +kernel
theorem dX8_reset_70 : decode cX8_reset 70 = .ok (.aload_n 0, 1) := by decide +kernel
theorem dX8_reset_71 : decode cX8_reset 71 = .ok (.getfield 7, 3) := by decide +kernel
theorem dX8_reset_74 : decode cX8_reset 74 = .ok (.bipush 56, 2) := by decide +kernel
theorem dX8_reset_76 : decode cX8_reset 76 = .ok (.iload_n 2, 1) := by decide +kernel
theorem dX8_reset_77 : decode cX8_reset 77 = .ok (.iadd, 1) := by decide +kernel
theorem dX8_reset_78 : decode cX8_reset 78 = .ok (.iconst 0, 1) := by decide +kernel
theorem dX8_reset_79 : decode cX8_reset 79 = .ok (.iastore, 1) := by decide +kernel
theorem dX8_reset_80 : decode cX8_reset 80 = .ok (.iinc 2 1, 3) := by decide +kernel
theorem dX8_reset_83 : decode cX8_reset 83 = .ok (.goto (-23), 3) := by decide +kernel
theorem dX8_reset_86 : decode cX8_reset 86 = .ok (.aload_n 0, 1) := by decide +kernel
theorem dX8_reset_87 : decode cX8_reset 87 = .ok (.iconst 0, 1) := by decide +kernel
theorem dX8_reset_88 : decode cX8_reset 88 = .ok (.iconst 1, 1) := by decide +kernel
theorem dX8_reset_89 : decode cX8_reset 89 = .ok (.invokevirtual 186, 3) := by decide +kernel
theorem dX8_reset_92 : decode cX8_reset 92 = .ok (.pop, 1) := by decide +kernel
theorem dX8_reset_93 : decode cX8_reset 93 = .ok (.aload_n 0, 1) := by decide +kernel
theorem dX8_reset_94 : decode cX8_reset 94 = .ok (.iload_n 1, 1) := by decide +kernel
theorem dX8_reset_95 : decode cX8_reset 95 = .ok (.invokevirtual 115, 3) := by decide +kernel
theorem dX8_reset_98 : decode cX8_reset 98 = .ok (.iload_n 1, 1) := by decide +kernel
theorem dX8_reset_99 : decode cX8_reset 99 = .ok (.ireturn, 1) := by decide +kernel
theorem dX8_propsIn_0 : decode cX8_propsIn 0 = .ok (.iconst 0, 1) := by decide +kernel
theorem dX8_propsIn_1 : decode cX8_propsIn 1 = .ok (.istore_n 2, 1) := by decide +kernel
theorem dX8_propsIn_2 : decode cX8_propsIn 2 = .ok (.iconst 0, 1) := by decide +kernel
theorem dX8_propsIn_3 : decode cX8_propsIn 3 = .ok (.istore_n 3, 1) := by decide +kernel
theorem dX8_propsIn_4 : decode cX8_propsIn 4 = .ok (.iload_n 3, 1) := by decide +kernel
theorem dX8_propsIn_5 : decode cX8_propsIn 5 = .ok (.aload_n 0, 1) := by decide +kernel
theorem dX8_propsIn_6 : decode cX8_propsIn 6 = .ok (.getfield 7, 3) := by decide +kernel
theorem dX8_propsIn_9 : decode cX8_propsIn 9 = .ok (.iconst 1, 1) := by decide +kernel
theorem dX8_propsIn_10 : decode cX8_propsIn 10 = .ok (.iaload, 1) := by decide +kernel
theorem dX8_propsIn_11 : decode cX8_propsIn 11 = .ok (.if_icmp .ge 30, 3) := by decide +kernel
theorem dX8_propsIn_14 : decode cX8_propsIn 14 = .ok (.iload_n 2, 1) := by decide +kernel
theorem dX8_propsIn_15 : decode cX8_propsIn 15 = .ok (.aload_n 0, 1) := by decide +kernel
theorem dX8_propsIn_16 : decode cX8_propsIn 16 = .ok (.getfield 7, 3) := by decide +kernel
theorem dX8_propsIn_19 : decode cX8_propsIn 19 = .ok (.bipush 104, 2) := by decide +kernel
theorem dX8_propsIn_21 : decode cX8_propsIn 21 = .ok (.iload_n 3, 1) := by decide +kernel
theorem dX8_propsIn_22 : decode cX8_propsIn 22 = .ok (.iadd, 1) := by decide +kernel
theorem dX8_propsIn_23 : decode cX8_propsIn 23 = .ok (.iaload, 1) := by decide +kernel
theorem dX8_propsIn_24 : decode cX8_propsIn 24 = .ok (.iload_n 1, 1) := by decide +kernel
theorem dX8_propsIn_25 : decode cX8_propsIn 25 = .ok (.if_icmp .ne 7, 3) := by decide +kernel
theorem dX8_propsIn_28 : decode cX8_propsIn 28 = .ok (.iconst 1, 1) := by decide +kernel
theorem dX8_propsIn_29 : decode cX8_propsIn 29 = .ok (.goto 4, 3) := by decide +kernel
theorem dX8_propsIn_32 : decode cX8_propsIn 32 = .ok (.iconst 0, 1) := by decide +kernel
theorem dX8_propsIn_33 : decode cX8_propsIn 33 = .ok (.iadd, 1) := by decide +kernel
theorem dX8_propsIn_34 : decode cX8_propsIn 34 = .ok (.istore_n 2, 1) := by decide +kernel
theorem dX8_propsIn_35 : decode cX8_propsIn 35 = .ok (.iinc 3 1, 3) := by decide +kernel
theorem dX8_propsIn_38 : decode cX8_propsIn 38 = .ok (.goto (-34), 3) := by decide +kernel
theorem dX8_propsIn_41 : decode cX8_propsIn 41 = .ok (.iload_n 2, 1) := by decide +kernel
theorem dX8_propsIn_42 : decode cX8_propsIn 42 = .ok (.ireturn, 1) := by decide +kernel
theorem dX8_boxesIn_0 : decode cX8_boxesIn 0 = .ok (.iconst 0, 1) := by decide +kernel
theorem dX8_boxesIn_1 : decode cX8_boxesIn 1 = .ok (.istore_n 2, 1) := by decide +kernel
theorem dX8_boxesIn_2 : decode cX8_boxesIn 2 = .ok (.iconst 1, 1) := by decide +kernel
theorem dX8_boxesIn_3 : decode cX8_boxesIn 3 = .ok (.istore_n 3, 1) := by decide +kernel
theorem dX8_boxesIn_4 : decode cX8_boxesIn 4 = .ok (.iload_n 3, 1) := by decide +kernel
theorem dX8_boxesIn_5 : decode cX8_boxesIn 5 = .ok (.aload_n 0, 1) := by decide +kernel
theorem dX8_boxesIn_6 : decode cX8_boxesIn 6 = .ok (.getfield 7, 3) := by decide +kernel
theorem dX8_boxesIn_9 : decode cX8_boxesIn 9 = .ok (.iconst 0, 1) := by decide +kernel
theorem dX8_boxesIn_10 : decode cX8_boxesIn 10 = .ok (.iaload, 1) := by decide +kernel
theorem dX8_boxesIn_11 : decode cX8_boxesIn 11 = .ok (.if_icmp .ge 30, 3) := by decide +kernel
theorem dX8_boxesIn_14 : decode cX8_boxesIn 14 = .ok (.iload_n 2, 1) := by decide +kernel
theorem dX8_boxesIn_15 : decode cX8_boxesIn 15 = .ok (.aload_n 0, 1) := by decide +kernel
theorem dX8_boxesIn_16 : decode cX8_boxesIn 16 = .ok (.getfield 7, 3) := by decide +kernel
theorem dX8_boxesIn_19 : decode cX8_boxesIn 19 = .ok (.bipush 20, 2) := by decide +kernel
theorem dX8_boxesIn_21 : decode cX8_boxesIn 21 = .ok (.iload_n 3, 1) := by decide +kernel
theorem dX8_boxesIn_22 : decode cX8_boxesIn 22 = .ok (.iadd, 1) := by decide +kernel
theorem dX8_boxesIn_23 : decode cX8_boxesIn 23 = .ok (.iaload, 1) := by decide +kernel
theorem dX8_boxesIn_24 : decode cX8_boxesIn 24 = .ok (.iload_n 1, 1) := by decide +kernel
theorem dX8_boxesIn_25 : decode cX8_boxesIn 25 = .ok (.if_icmp .ne 7, 3) := by decide +kernel
theorem dX8_boxesIn_28 : decode cX8_boxesIn 28 = .ok (.iconst 1, 1) := by decide +kernel
theorem dX8_boxesIn_29 : decode cX8_boxesIn 29 = .ok (.goto 4, 3) := by decide +kernel
theorem dX8_boxesIn_32 : decode cX8_boxesIn 32 = .ok (.iconst 0, 1) := by decide +kernel
theorem dX8_boxesIn_33 : decode cX8_boxesIn 33 = .ok (.iadd, 1) := by decide +kernel
theorem dX8_boxesIn_34 : decode cX8_boxesIn 34 = .ok (.istore_n 2, 1) := by decide +kernel
theorem dX8_boxesIn_35 : decode cX8_boxesIn 35 = .ok (.iinc 3 1, 3) := by decide +kernel
theorem dX8_boxesIn_38 : decode cX8_boxesIn 38 = .ok (.goto (-34), 3) := by decide +kernel
theorem dX8_boxesIn_41 : decode cX8_boxesIn 41 = .ok (.iload_n 2, 1) := by decide +kernel
theorem dX8_boxesIn_42 : decode cX8_boxesIn 42 = .ok (.ireturn, 1) := by decide +kernel
theorem dX8_box_0 : decode cX8_box 0 = .ok (.aload_n 0, 1) := by decide +kernel
theorem dX8_box_1 : decode cX8_box 1 = .ok (.iload_n 1, 1) := by decide +kernel
theorem dX8_box_2 : decode cX8_box 2 = .ok (.invokevirtual 99, 3) := by decide +kernel
theorem dX8_box_5 : decode cX8_box 5 = .ok (.ifCond .eq 5, 3) := by decide +kernel
theorem dX8_box_8 : decode cX8_box 8 = .ok (.iconst (-1), 1) := by decide +kernel
theorem dX8_box_9 : decode cX8_box 9 = .ok (.ireturn, 1) := by decide +kernel
theorem dX8_box_10 : decode cX8_box 10 = .ok (.iload_n 2, 1) := by decide +kernel
theorem dX8_box_11 : decode cX8_box 11 = .ok (.tableswitch 159 0 7 #[45, 64, 83, 93, 107, 113, 119, 138], 45) := by decide +kernel
theorem dX8_box_56 : decode cX8_box 56 = .ok (.iload_n 1, 1) := by decide +kernel
theorem dX8_box_57 : decode cX8_box 57 = .ok (.ifCond .ne 8, 3) := by decide +kernel
theorem dX8_box_60 : decode cX8_box 60 = .ok (.bipush (-5), 2) := by decide +kernel
theorem dX8_box_62 : decode cX8_box 62 = .ok (.goto 12, 3) := by decide +kernel
theorem dX8_box_65 : decode cX8_box 65 = .ok (.aload_n 0, 1) := by decide +kernel
theorem dX8_box_66 : decode cX8_box 66 = .ok (.getfield 7, 3) := by decide +kernel
theorem dX8_box_69 : decode cX8_box 69 = .ok (.bipush 20, 2) := by decide +kernel
theorem dX8_box_71 : decode cX8_box 71 = .ok (.iload_n 1, 1) := by decide +kernel
theorem dX8_box_72 : decode cX8_box 72 = .ok (.iadd, 1) := by decide +kernel
theorem dX8_box_73 : decode cX8_box 73 = .ok (.iaload, 1) := by decide +kernel
theorem dX8_box_74 : decode cX8_box 74 = .ok (.ireturn, 1) := by decide +kernel
theorem dX8_box_75 : decode cX8_box 75 = .ok (.iload_n 1, 1) := by decide +kernel
theorem dX8_box_76 : decode cX8_box 76 = .ok (.ifCond .ne 8, 3) := by decide +kernel
theorem dX8_box_79 : decode cX8_box 79 = .ok (.bipush (-5), 2) := by decide +kernel
theorem dX8_box_81 : decode cX8_box 81 = .ok (.goto 12, 3) := by decide +kernel
theorem dX8_box_84 : decode cX8_box 84 = .ok (.aload_n 0, 1) := by decide +kernel
theorem dX8_box_85 : decode cX8_box 85 = .ok (.getfield 7, 3) := by decide +kernel
theorem dX8_box_88 : decode cX8_box 88 = .ok (.bipush 32, 2) := by decide +kernel
theorem dX8_box_90 : decode cX8_box 90 = .ok (.iload_n 1, 1) := by decide +kernel
theorem dX8_box_91 : decode cX8_box 91 = .ok (.iadd, 1) := by decide +kernel
theorem dX8_box_92 : decode cX8_box 92 = .ok (.iaload, 1) := by decide +kernel
theorem dX8_box_93 : decode cX8_box 93 = .ok (.ireturn, 1) := by decide +kernel
theorem dX8_box_94 : decode cX8_box 94 = .ok (.aload_n 0, 1) := by decide +kernel
theorem dX8_box_95 : decode cX8_box 95 = .ok (.getfield 7, 3) := by decide +kernel
theorem dX8_box_98 : decode cX8_box 98 = .ok (.bipush 56, 2) := by decide +kernel
theorem dX8_box_100 : decode cX8_box 100 = .ok (.iload_n 1, 1) := by decide +kernel
theorem dX8_box_101 : decode cX8_box 101 = .ok (.iadd, 1) := by decide +kernel
theorem dX8_box_102 : decode cX8_box 102 = .ok (.iaload, 1) := by decide +kernel
theorem dX8_box_103 : decode cX8_box 103 = .ok (.ireturn, 1) := by decide +kernel
theorem dX8_box_104 : decode cX8_box 104 = .ok (.aload_n 0, 1) := by decide +kernel
theorem dX8_box_105 : decode cX8_box 105 = .ok (.iload_n 1, 1) := by decide +kernel
theorem dX8_box_106 : decode cX8_box 106 = .ok (.invokevirtual 143, 3) := by decide +kernel
theorem dX8_box_109 : decode cX8_box 109 = .ok (.ifCond .eq 7, 3) := by decide +kernel
theorem dX8_box_112 : decode cX8_box 112 = .ok (.iconst 1, 1) := by decide +kernel
theorem dX8_box_113 : decode cX8_box 113 = .ok (.goto 4, 3) := by decide +kernel
theorem dX8_box_116 : decode cX8_box 116 = .ok (.iconst 0, 1) := by decide +kernel
theorem dX8_box_117 : decode cX8_box 117 = .ok (.ireturn, 1) := by decide +kernel
theorem dX8_box_118 : decode cX8_box 118 = .ok (.aload_n 0, 1) := by decide +kernel
theorem dX8_box_119 : decode cX8_box 119 = .ok (.iload_n 1, 1) := by decide +kernel
theorem dX8_box_120 : decode cX8_box 120 = .ok (.invokevirtual 193, 3) := by decide +kernel
theorem dX8_box_123 : decode cX8_box 123 = .ok (.ireturn, 1) := by decide +kernel
theorem dX8_box_124 : decode cX8_box 124 = .ok (.aload_n 0, 1) := by decide +kernel
theorem dX8_box_125 : decode cX8_box 125 = .ok (.iload_n 1, 1) := by decide +kernel
theorem dX8_box_126 : decode cX8_box 126 = .ok (.invokevirtual 196, 3) := by decide +kernel
theorem dX8_box_129 : decode cX8_box 129 = .ok (.ireturn, 1) := by decide +kernel
theorem dX8_box_130 : decode cX8_box 130 = .ok (.iload_n 1, 1) := by decide +kernel
theorem dX8_box_131 : decode cX8_box 131 = .ok (.ifCond .ne 8, 3) := by decide +kernel
theorem dX8_box_134 : decode cX8_box 134 = .ok (.bipush (-5), 2) := by decide +kernel
theorem dX8_box_136 : decode cX8_box 136 = .ok (.goto 12, 3) := by decide +kernel
theorem dX8_box_139 : decode cX8_box 139 = .ok (.aload_n 0, 1) := by decide +kernel
theorem dX8_box_140 : decode cX8_box 140 = .ok (.getfield 7, 3) := by decide +kernel
theorem dX8_box_143 : decode cX8_box 143 = .ok (.bipush 44, 2) := by decide +kernel
theorem dX8_box_145 : decode cX8_box 145 = .ok (.iload_n 1, 1) := by decide +kernel
theorem dX8_box_146 : decode cX8_box 146 = .ok (.iadd, 1) := by decide +kernel
theorem dX8_box_147 : decode cX8_box 147 = .ok (.iaload, 1) := by decide +kernel
theorem dX8_box_148 : decode cX8_box 148 = .ok (.ireturn, 1) := by decide +kernel
theorem dX8_box_149 : decode cX8_box 149 = .ok (.aload_n 0, 1) := by decide +kernel
theorem dX8_box_150 : decode cX8_box 150 = .ok (.invokevirtual 105, 3) := by decide +kernel
theorem dX8_box_153 : decode cX8_box 153 = .ok (.ifCond .eq 15, 3) := by decide +kernel
theorem dX8_box_156 : decode cX8_box 156 = .ok (.aload_n 0, 1) := by decide +kernel
theorem dX8_box_157 : decode cX8_box 157 = .ok (.getfield 7, 3) := by decide +kernel
theorem dX8_box_160 : decode cX8_box 160 = .ok (.bipush 68, 2) := by decide +kernel
theorem dX8_box_162 : decode cX8_box 162 = .ok (.iload_n 1, 1) := by decide +kernel
theorem dX8_box_163 : decode cX8_box 163 = .ok (.iadd, 1) := by decide +kernel
theorem dX8_box_164 : decode cX8_box 164 = .ok (.iaload, 1) := by decide +kernel
theorem dX8_box_165 : decode cX8_box 165 = .ok (.goto 4, 3) := by decide +kernel
theorem dX8_box_168 : decode cX8_box 168 = .ok (.iconst 0, 1) := by decide +kernel
theorem dX8_box_169 : decode cX8_box 169 = .ok (.ireturn, 1) := by decide +kernel
theorem dX8_box_170 : decode cX8_box 170 = .ok (.bipush (-2), 2) := by decide +kernel
theorem dX8_box_172 : decode cX8_box 172 = .ok (.ireturn, 1) := by decide +kernel
theorem dX8_cluesOn_0 : decode cX8_cluesOn 0 = .ok (.iconst 0, 1) := by decide +kernel
theorem dX8_cluesOn_1 : decode cX8_cluesOn 1 = .ok (.istore_n 2, 1) := by decide +kernel
theorem dX8_cluesOn_2 : decode cX8_cluesOn 2 = .ok (.iconst 0, 1) := by decide +kernel
theorem dX8_cluesOn_3 : decode cX8_cluesOn 3 = .ok (.istore_n 3, 1) := by decide +kernel
theorem dX8_cluesOn_4 : decode cX8_cluesOn 4 = .ok (.iload_n 3, 1) := by decide +kernel
theorem dX8_cluesOn_5 : decode cX8_cluesOn 5 = .ok (.aload_n 0, 1) := by decide +kernel
theorem dX8_cluesOn_6 : decode cX8_cluesOn 6 = .ok (.getfield 7, 3) := by decide +kernel
theorem dX8_cluesOn_9 : decode cX8_cluesOn 9 = .ok (.iconst 2, 1) := by decide +kernel
theorem dX8_cluesOn_10 : decode cX8_cluesOn 10 = .ok (.iaload, 1) := by decide +kernel
end
section
theorem dX8_cluesOn_11 : decode cX8_cluesOn 11 = .ok (.if_icmp .ge 31, 3) := by decide +kernel
theorem dX8_cluesOn_14 : decode cX8_cluesOn 14 = .ok (.iload_n 2, 1) := by decide +kernel
theorem dX8_cluesOn_15 : decode cX8_cluesOn 15 = .ok (.aload_n 0, 1) := by decide +kernel
theorem dX8_cluesOn_16 : decode cX8_cluesOn 16 = .ok (.getfield 7, 3) := by decide +kernel
theorem dX8_cluesOn_19 : decode cX8_cluesOn 19 = .ok (.sipush 128, 3) := by decide +kernel
theorem dX8_cluesOn_22 : decode cX8_cluesOn 22 = .ok (.iload_n 3, 1) := by decide +kernel
theorem dX8_cluesOn_23 : decode cX8_cluesOn 23 = .ok (.iadd, 1) := by decide +kernel
theorem dX8_cluesOn_24 : decode cX8_cluesOn 24 = .ok (.iaload, 1) := by decide +kernel
theorem dX8_cluesOn_25 : decode cX8_cluesOn 25 = .ok (.iload_n 1, 1) := by decide +kernel
theorem dX8_cluesOn_26 : decode cX8_cluesOn 26 = .ok (.if_icmp .ne 7, 3) := by decide +kernel
theorem dX8_cluesOn_29 : decode cX8_cluesOn 29 = .ok (.iconst 1, 1) := by decide +kernel
theorem dX8_cluesOn_30 : decode cX8_cluesOn 30 = .ok (.goto 4, 3) := by decide +kernel
theorem dX8_cluesOn_33 : decode cX8_cluesOn 33 = .ok (.iconst 0, 1) := by decide +kernel
theorem dX8_cluesOn_34 : decode cX8_cluesOn 34 = .ok (.iadd, 1) := by decide +kernel
theorem dX8_cluesOn_35 : decode cX8_cluesOn 35 = .ok (.istore_n 2, 1) := by decide +kernel
theorem dX8_cluesOn_36 : decode cX8_cluesOn 36 = .ok (.iinc 3 1, 3) := by decide +kernel
theorem dX8_cluesOn_39 : decode cX8_cluesOn 39 = .ok (.goto (-35), 3) := by decide +kernel
theorem dX8_cluesOn_42 : decode cX8_cluesOn 42 = .ok (.iload_n 2, 1) := by decide +kernel
theorem dX8_cluesOn_43 : decode cX8_cluesOn 43 = .ok (.ireturn, 1) := by decide +kernel
theorem dX8_locksWith_0 : decode cX8_locksWith 0 = .ok (.iconst 0, 1) := by decide +kernel
theorem dX8_locksWith_1 : decode cX8_locksWith 1 = .ok (.istore_n 2, 1) := by decide +kernel
theorem dX8_locksWith_2 : decode cX8_locksWith 2 = .ok (.iconst 1, 1) := by decide +kernel
theorem dX8_locksWith_3 : decode cX8_locksWith 3 = .ok (.istore_n 3, 1) := by decide +kernel
theorem dX8_locksWith_4 : decode cX8_locksWith 4 = .ok (.iload_n 3, 1) := by decide +kernel
theorem dX8_locksWith_5 : decode cX8_locksWith 5 = .ok (.aload_n 0, 1) := by decide +kernel
theorem dX8_locksWith_6 : decode cX8_locksWith 6 = .ok (.getfield 7, 3) := by decide +kernel
theorem dX8_locksWith_9 : decode cX8_locksWith 9 = .ok (.iconst 0, 1) := by decide +kernel
theorem dX8_locksWith_10 : decode cX8_locksWith 10 = .ok (.iaload, 1) := by decide +kernel
theorem dX8_locksWith_11 : decode cX8_locksWith 11 = .ok (.if_icmp .ge 68, 3) := by decide +kernel
theorem dX8_locksWith_14 : decode cX8_locksWith 14 = .ok (.aload_n 0, 1) := by decide +kernel
theorem dX8_locksWith_15 : decode cX8_locksWith 15 = .ok (.getfield 7, 3) := by decide +kernel
theorem dX8_locksWith_18 : decode cX8_locksWith 18 = .ok (.bipush 32, 2) := by decide +kernel
theorem dX8_locksWith_20 : decode cX8_locksWith 20 = .ok (.iload_n 3, 1) := by decide +kernel
theorem dX8_locksWith_21 : decode cX8_locksWith 21 = .ok (.iadd, 1) := by decide +kernel
theorem dX8_locksWith_22 : decode cX8_locksWith 22 = .ok (.iaload, 1) := by decide +kernel
theorem dX8_locksWith_23 : decode cX8_locksWith 23 = .ok (.iconst 1, 1) := by decide +kernel
theorem dX8_locksWith_24 : decode cX8_locksWith 24 = .ok (.if_icmp .eq 16, 3) := by decide +kernel
theorem dX8_locksWith_27 : decode cX8_locksWith 27 = .ok (.aload_n 0, 1) := by decide +kernel
theorem dX8_locksWith_28 : decode cX8_locksWith 28 = .ok (.getfield 7, 3) := by decide +kernel
theorem dX8_locksWith_31 : decode cX8_locksWith 31 = .ok (.bipush 32, 2) := by decide +kernel
theorem dX8_locksWith_33 : decode cX8_locksWith 33 = .ok (.iload_n 3, 1) := by decide +kernel
theorem dX8_locksWith_34 : decode cX8_locksWith 34 = .ok (.iadd, 1) := by decide +kernel
theorem dX8_locksWith_35 : decode cX8_locksWith 35 = .ok (.iaload, 1) := by decide +kernel
theorem dX8_locksWith_36 : decode cX8_locksWith 36 = .ok (.iconst 2, 1) := by decide +kernel
theorem dX8_locksWith_37 : decode cX8_locksWith 37 = .ok (.if_icmp .le 7, 3) := by decide +kernel
theorem dX8_locksWith_40 : decode cX8_locksWith 40 = .ok (.iconst 1, 1) := by decide +kernel
theorem dX8_locksWith_41 : decode cX8_locksWith 41 = .ok (.goto 4, 3) := by decide +kernel
theorem dX8_locksWith_44 : decode cX8_locksWith 44 = .ok (.iconst 0, 1) := by decide +kernel
theorem dX8_locksWith_45 : decode cX8_locksWith 45 = .ok (.istore 4, 2) := by decide +kernel
theorem dX8_locksWith_47 : decode cX8_locksWith 47 = .ok (.iload_n 2, 1) := by decide +kernel
theorem dX8_locksWith_48 : decode cX8_locksWith 48 = .ok (.iload 4, 2) := by decide +kernel
theorem dX8_locksWith_50 : decode cX8_locksWith 50 = .ok (.ifCond .eq 20, 3) := by decide +kernel
theorem dX8_locksWith_53 : decode cX8_locksWith 53 = .ok (.aload_n 0, 1) := by decide +kernel
theorem dX8_locksWith_54 : decode cX8_locksWith 54 = .ok (.getfield 7, 3) := by decide +kernel
theorem dX8_locksWith_57 : decode cX8_locksWith 57 = .ok (.bipush 44, 2) := by decide +kernel
theorem dX8_locksWith_59 : decode cX8_locksWith 59 = .ok (.iload_n 3, 1) := by decide +kernel
theorem dX8_locksWith_60 : decode cX8_locksWith 60 = .ok (.iadd, 1) := by decide +kernel
theorem dX8_locksWith_61 : decode cX8_locksWith 61 = .ok (.iaload, 1) := by decide +kernel
theorem dX8_locksWith_62 : decode cX8_locksWith 62 = .ok (.iload_n 1, 1) := by decide +kernel
theorem dX8_locksWith_63 : decode cX8_locksWith 63 = .ok (.if_icmp .ne 7, 3) := by decide +kernel
theorem dX8_locksWith_66 : decode cX8_locksWith 66 = .ok (.iconst 1, 1) := by decide +kernel
theorem dX8_locksWith_67 : decode cX8_locksWith 67 = .ok (.goto 4, 3) := by decide +kernel
theorem dX8_locksWith_70 : decode cX8_locksWith 70 = .ok (.iconst 0, 1) := by decide +kernel
theorem dX8_locksWith_71 : decode cX8_locksWith 71 = .ok (.iadd, 1) := by decide +kernel
theorem dX8_locksWith_72 : decode cX8_locksWith 72 = .ok (.istore_n 2, 1) := by decide +kernel
theorem dX8_locksWith_73 : decode cX8_locksWith 73 = .ok (.iinc 3 1, 3) := by decide +kernel
theorem dX8_locksWith_76 : decode cX8_locksWith 76 = .ok (.goto (-72), 3) := by decide +kernel
theorem dX8_locksWith_79 : decode cX8_locksWith 79 = .ok (.iload_n 2, 1) := by decide +kernel
theorem dX8_locksWith_80 : decode cX8_locksWith 80 = .ok (.ireturn, 1) := by decide +kernel
theorem dX8_prop_0 : decode cX8_prop 0 = .ok (.aload_n 0, 1) := by decide +kernel
theorem dX8_prop_1 : decode cX8_prop 1 = .ok (.iload_n 1, 1) := by decide +kernel
theorem dX8_prop_2 : decode cX8_prop 2 = .ok (.invokevirtual 102, 3) := by decide +kernel
theorem dX8_prop_5 : decode cX8_prop 5 = .ok (.ifCond .eq 5, 3) := by decide +kernel
theorem dX8_prop_8 : decode cX8_prop 8 = .ok (.iconst (-1), 1) := by decide +kernel
theorem dX8_prop_9 : decode cX8_prop 9 = .ok (.ireturn, 1) := by decide +kernel
theorem dX8_prop_10 : decode cX8_prop 10 = .ok (.iload_n 2, 1) := by decide +kernel
theorem dX8_prop_11 : decode cX8_prop 11 = .ok (.tableswitch 92 0 4 #[33, 43, 66, 80, 86], 33) := by decide +kernel
theorem dX8_prop_44 : decode cX8_prop 44 = .ok (.aload_n 0, 1) := by decide +kernel
theorem dX8_prop_45 : decode cX8_prop 45 = .ok (.getfield 7, 3) := by decide +kernel
theorem dX8_prop_48 : decode cX8_prop 48 = .ok (.bipush 80, 2) := by decide +kernel
theorem dX8_prop_50 : decode cX8_prop 50 = .ok (.iload_n 1, 1) := by decide +kernel
theorem dX8_prop_51 : decode cX8_prop 51 = .ok (.iadd, 1) := by decide +kernel
theorem dX8_prop_52 : decode cX8_prop 52 = .ok (.iaload, 1) := by decide +kernel
theorem dX8_prop_53 : decode cX8_prop 53 = .ok (.ireturn, 1) := by decide +kernel
theorem dX8_prop_54 : decode cX8_prop 54 = .ok (.aload_n 0, 1) := by decide +kernel
theorem dX8_prop_55 : decode cX8_prop 55 = .ok (.iload_n 1, 1) := by decide +kernel
theorem dX8_prop_56 : decode cX8_prop 56 = .ok (.invokevirtual 45, 3) := by decide +kernel
theorem dX8_prop_59 : decode cX8_prop 59 = .ok (.ifCond .eq 8, 3) := by decide +kernel
theorem dX8_prop_62 : decode cX8_prop 62 = .ok (.bipush (-5), 2) := by decide +kernel
theorem dX8_prop_64 : decode cX8_prop 64 = .ok (.goto 12, 3) := by decide +kernel
theorem dX8_prop_67 : decode cX8_prop 67 = .ok (.aload_n 0, 1) := by decide +kernel
theorem dX8_prop_68 : decode cX8_prop 68 = .ok (.getfield 7, 3) := by decide +kernel
theorem dX8_prop_71 : decode cX8_prop 71 = .ok (.bipush 104, 2) := by decide +kernel
theorem dX8_prop_73 : decode cX8_prop 73 = .ok (.iload_n 1, 1) := by decide +kernel
theorem dX8_prop_74 : decode cX8_prop 74 = .ok (.iadd, 1) := by decide +kernel
theorem dX8_prop_75 : decode cX8_prop 75 = .ok (.iaload, 1) := by decide +kernel
theorem dX8_prop_76 : decode cX8_prop 76 = .ok (.ireturn, 1) := by decide +kernel
theorem dX8_prop_77 : decode cX8_prop 77 = .ok (.aload_n 0, 1) := by decide +kernel
theorem dX8_prop_78 : decode cX8_prop 78 = .ok (.iload_n 1, 1) := by decide +kernel
theorem dX8_prop_79 : decode cX8_prop 79 = .ok (.invokevirtual 48, 3) := by decide +kernel
theorem dX8_prop_82 : decode cX8_prop 82 = .ok (.ifCond .eq 7, 3) := by decide +kernel
theorem dX8_prop_85 : decode cX8_prop 85 = .ok (.iconst 1, 1) := by decide +kernel
theorem dX8_prop_86 : decode cX8_prop 86 = .ok (.goto 4, 3) := by decide +kernel
theorem dX8_prop_89 : decode cX8_prop 89 = .ok (.iconst 0, 1) := by decide +kernel
theorem dX8_prop_90 : decode cX8_prop 90 = .ok (.ireturn, 1) := by decide +kernel
theorem dX8_prop_91 : decode cX8_prop 91 = .ok (.aload_n 0, 1) := by decide +kernel
theorem dX8_prop_92 : decode cX8_prop 92 = .ok (.iload_n 1, 1) := by decide +kernel
theorem dX8_prop_93 : decode cX8_prop 93 = .ok (.invokevirtual 199, 3) := by decide +kernel
theorem dX8_prop_96 : decode cX8_prop 96 = .ok (.ireturn, 1) := by decide +kernel
theorem dX8_prop_97 : decode cX8_prop 97 = .ok (.aload_n 0, 1) := by decide +kernel
theorem dX8_prop_98 : decode cX8_prop 98 = .ok (.iload_n 1, 1) := by decide +kernel
theorem dX8_prop_99 : decode cX8_prop 99 = .ok (.invokevirtual 202, 3) := by decide +kernel
theorem dX8_prop_102 : decode cX8_prop 102 = .ok (.ireturn, 1) := by decide +kernel
theorem dX8_prop_103 : decode cX8_prop 103 = .ok (.bipush (-2), 2) := by decide +kernel
theorem dX8_prop_105 : decode cX8_prop 105 = .ok (.ireturn, 1) := by decide +kernel
theorem dX8_clue_0 : decode cX8_clue 0 = .ok (.aload_n 0, 1) := by decide +kernel
theorem dX8_clue_1 : decode cX8_clue 1 = .ok (.iload_n 1, 1) := by decide +kernel
theorem dX8_clue_2 : decode cX8_clue 2 = .ok (.invokevirtual 149, 3) := by decide +kernel
theorem dX8_clue_5 : decode cX8_clue 5 = .ok (.ifCond .eq 5, 3) := by decide +kernel
theorem dX8_clue_8 : decode cX8_clue 8 = .ok (.iconst (-1), 1) := by decide +kernel
theorem dX8_clue_9 : decode cX8_clue 9 = .ok (.ireturn, 1) := by decide +kernel
theorem dX8_clue_10 : decode cX8_clue 10 = .ok (.iload_n 2, 1) := by decide +kernel
theorem dX8_clue_11 : decode cX8_clue 11 = .ok (.tableswitch 101 0 5 #[37, 48, 59, 70, 81, 87], 37) := by decide +kernel
theorem dX8_clue_48 : decode cX8_clue 48 = .ok (.aload_n 0, 1) := by decide +kernel
theorem dX8_clue_49 : decode cX8_clue 49 = .ok (.getfield 7, 3) := by decide +kernel
theorem dX8_clue_52 : decode cX8_clue 52 = .ok (.sipush 128, 3) := by decide +kernel
theorem dX8_clue_55 : decode cX8_clue 55 = .ok (.iload_n 1, 1) := by decide +kernel
theorem dX8_clue_56 : decode cX8_clue 56 = .ok (.iadd, 1) := by decide +kernel
theorem dX8_clue_57 : decode cX8_clue 57 = .ok (.iaload, 1) := by decide +kernel
theorem dX8_clue_58 : decode cX8_clue 58 = .ok (.ireturn, 1) := by decide +kernel
theorem dX8_clue_59 : decode cX8_clue 59 = .ok (.aload_n 0, 1) := by decide +kernel
theorem dX8_clue_60 : decode cX8_clue 60 = .ok (.getfield 7, 3) := by decide +kernel
theorem dX8_clue_63 : decode cX8_clue 63 = .ok (.sipush 140, 3) := by decide +kernel
theorem dX8_clue_66 : decode cX8_clue 66 = .ok (.iload_n 1, 1) := by decide +kernel
theorem dX8_clue_67 : decode cX8_clue 67 = .ok (.iadd, 1) := by decide +kernel
theorem dX8_clue_68 : decode cX8_clue 68 = .ok (.iaload, 1) := by decide +kernel
theorem dX8_clue_69 : decode cX8_clue 69 = .ok (.ireturn, 1) := by decide +kernel
theorem dX8_clue_70 : decode cX8_clue 70 = .ok (.aload_n 0, 1) := by decide +kernel
theorem dX8_clue_71 : decode cX8_clue 71 = .ok (.getfield 7, 3) := by decide +kernel
theorem dX8_clue_74 : decode cX8_clue 74 = .ok (.sipush 152, 3) := by decide +kernel
theorem dX8_clue_77 : decode cX8_clue 77 = .ok (.iload_n 1, 1) := by decide +kernel
theorem dX8_clue_78 : decode cX8_clue 78 = .ok (.iadd, 1) := by decide +kernel
theorem dX8_clue_79 : decode cX8_clue 79 = .ok (.iaload, 1) := by decide +kernel
theorem dX8_clue_80 : decode cX8_clue 80 = .ok (.ireturn, 1) := by decide +kernel
theorem dX8_clue_81 : decode cX8_clue 81 = .ok (.aload_n 0, 1) := by decide +kernel
theorem dX8_clue_82 : decode cX8_clue 82 = .ok (.getfield 7, 3) := by decide +kernel
theorem dX8_clue_85 : decode cX8_clue 85 = .ok (.sipush 164, 3) := by decide +kernel
theorem dX8_clue_88 : decode cX8_clue 88 = .ok (.iload_n 1, 1) := by decide +kernel
theorem dX8_clue_89 : decode cX8_clue 89 = .ok (.iadd, 1) := by decide +kernel
theorem dX8_clue_90 : decode cX8_clue 90 = .ok (.iaload, 1) := by decide +kernel
theorem dX8_clue_91 : decode cX8_clue 91 = .ok (.ireturn, 1) := by decide +kernel
theorem dX8_clue_92 : decode cX8_clue 92 = .ok (.aload_n 0, 1) := by decide +kernel
theorem dX8_clue_93 : decode cX8_clue 93 = .ok (.iload_n 1, 1) := by decide +kernel
theorem dX8_clue_94 : decode cX8_clue 94 = .ok (.invokevirtual 158, 3) := by decide +kernel
theorem dX8_clue_97 : decode cX8_clue 97 = .ok (.ireturn, 1) := by decide +kernel
theorem dX8_clue_98 : decode cX8_clue 98 = .ok (.aload_n 0, 1) := by decide +kernel
theorem dX8_clue_99 : decode cX8_clue 99 = .ok (.iload_n 1, 1) := by decide +kernel
theorem dX8_clue_100 : decode cX8_clue 100 = .ok (.invokevirtual 51, 3) := by decide +kernel
theorem dX8_clue_103 : decode cX8_clue 103 = .ok (.ifCond .eq 7, 3) := by decide +kernel
theorem dX8_clue_106 : decode cX8_clue 106 = .ok (.iconst 1, 1) := by decide +kernel
theorem dX8_clue_107 : decode cX8_clue 107 = .ok (.goto 4, 3) := by decide +kernel
theorem dX8_clue_110 : decode cX8_clue 110 = .ok (.iconst 0, 1) := by decide +kernel
theorem dX8_clue_111 : decode cX8_clue 111 = .ok (.ireturn, 1) := by decide +kernel
theorem dX8_clue_112 : decode cX8_clue 112 = .ok (.bipush (-2), 2) := by decide +kernel
theorem dX8_clue_114 : decode cX8_clue 114 = .ok (.ireturn, 1) := by decide +kernel
theorem dX8_heldSet_0 : decode cX8_heldSet 0 = .ok (.iconst 0, 1) := by decide +kernel
theorem dX8_heldSet_1 : decode cX8_heldSet 1 = .ok (.istore_n 1, 1) := by decide +kernel
theorem dX8_heldSet_2 : decode cX8_heldSet 2 = .ok (.iconst 0, 1) := by decide +kernel
theorem dX8_heldSet_3 : decode cX8_heldSet 3 = .ok (.istore_n 2, 1) := by decide +kernel
theorem dX8_heldSet_4 : decode cX8_heldSet 4 = .ok (.iload_n 2, 1) := by decide +kernel
theorem dX8_heldSet_5 : decode cX8_heldSet 5 = .ok (.aload_n 0, 1) := by decide +kernel
theorem dX8_heldSet_6 : decode cX8_heldSet 6 = .ok (.getfield 7, 3) := by decide +kernel
theorem dX8_heldSet_9 : decode cX8_heldSet 9 = .ok (.iconst 1, 1) := by decide +kernel
theorem dX8_heldSet_10 : decode cX8_heldSet 10 = .ok (.iaload, 1) := by decide +kernel
theorem dX8_heldSet_11 : decode cX8_heldSet 11 = .ok (.if_icmp .ge 27, 3) := by decide +kernel
theorem dX8_heldSet_14 : decode cX8_heldSet 14 = .ok (.iload_n 1, 1) := by decide +kernel
theorem dX8_heldSet_15 : decode cX8_heldSet 15 = .ok (.aload_n 0, 1) := by decide +kernel
theorem dX8_heldSet_16 : decode cX8_heldSet 16 = .ok (.iload_n 2, 1) := by decide +kernel
theorem dX8_heldSet_17 : decode cX8_heldSet 17 = .ok (.invokevirtual 45, 3) := by decide +kernel
theorem dX8_heldSet_20 : decode cX8_heldSet 20 = .ok (.ifCond .eq 9, 3) := by decide +kernel
theorem dX8_heldSet_23 : decode cX8_heldSet 23 = .ok (.iconst 1, 1) := by decide +kernel
theorem dX8_heldSet_24 : decode cX8_heldSet 24 = .ok (.iload_n 2, 1) := by decide +kernel
theorem dX8_heldSet_25 : decode cX8_heldSet 25 = .ok (.ishl, 1) := by decide +kernel
theorem dX8_heldSet_26 : decode cX8_heldSet 26 = .ok (.goto 4, 3) := by decide +kernel
theorem dX8_heldSet_29 : decode cX8_heldSet 29 = .ok (.iconst 0, 1) := by decide +kernel
theorem dX8_heldSet_30 : decode cX8_heldSet 30 = .ok (.ior, 1) := by decide +kernel
theorem dX8_heldSet_31 : decode cX8_heldSet 31 = .ok (.istore_n 1, 1) := by decide +kernel
theorem dX8_heldSet_32 : decode cX8_heldSet 32 = .ok (.iinc 2 1, 3) := by decide +kernel
theorem dX8_heldSet_35 : decode cX8_heldSet 35 = .ok (.goto (-31), 3) := by decide +kernel
theorem dX8_heldSet_38 : decode cX8_heldSet 38 = .ok (.iload_n 1, 1) := by decide +kernel
theorem dX8_heldSet_39 : decode cX8_heldSet 39 = .ok (.ireturn, 1) := by decide +kernel
theorem dX8_game_0 : decode cX8_game 0 = .ok (.iload_n 1, 1) := by decide +kernel
theorem dX8_game_1 : decode cX8_game 1 = .ok (.iconst 0, 1) := by decide +kernel
theorem dX8_game_2 : decode cX8_game 2 = .ok (.iconst 5, 1) := by decide +kernel
theorem dX8_game_3 : decode cX8_game 3 = .ok (.invokestatic 30, 3) := by decide +kernel
theorem dX8_game_6 : decode cX8_game 6 = .ok (.ifCond .ne 6, 3) := by decide +kernel
theorem dX8_game_9 : decode cX8_game 9 = .ok (.bipush (-2), 2) := by decide +kernel
theorem dX8_game_11 : decode cX8_game 11 = .ok (.ireturn, 1) := by decide +kernel
theorem dX8_game_12 : decode cX8_game 12 = .ok (.aload_n 0, 1) := by decide +kernel
theorem dX8_game_13 : decode cX8_game 13 = .ok (.invokevirtual 105, 3) := by decide +kernel
theorem dX8_game_16 : decode cX8_game 16 = .ok (.ifCond .ne 6, 3) := by decide +kernel
theorem dX8_game_19 : decode cX8_game 19 = .ok (.bipush (-4), 2) := by decide +kernel
theorem dX8_game_21 : decode cX8_game 21 = .ok (.ireturn, 1) := by decide +kernel
theorem dX8_game_22 : decode cX8_game 22 = .ok (.iload_n 1, 1) := by decide +kernel
theorem dX8_game_23 : decode cX8_game 23 = .ok (.tableswitch 67 0 4 #[33, 41, 49, 54, 62], 33) := by decide +kernel
theorem dX8_game_56 : decode cX8_game 56 = .ok (.aload_n 0, 1) := by decide +kernel
theorem dX8_game_57 : decode cX8_game 57 = .ok (.getfield 7, 3) := by decide +kernel
theorem dX8_game_60 : decode cX8_game 60 = .ok (.bipush 11, 2) := by decide +kernel
theorem dX8_game_62 : decode cX8_game 62 = .ok (.iaload, 1) := by decide +kernel
theorem dX8_game_63 : decode cX8_game 63 = .ok (.ireturn, 1) := by decide +kernel
theorem dX8_game_64 : decode cX8_game 64 = .ok (.aload_n 0, 1) := by decide +kernel
theorem dX8_game_65 : decode cX8_game 65 = .ok (.getfield 7, 3) := by decide +kernel
theorem dX8_game_68 : decode cX8_game 68 = .ok (.bipush 13, 2) := by decide +kernel
theorem dX8_game_70 : decode cX8_game 70 = .ok (.iaload, 1) := by decide +kernel
theorem dX8_game_71 : decode cX8_game 71 = .ok (.ireturn, 1) := by decide +kernel
theorem dX8_game_72 : decode cX8_game 72 = .ok (.aload_n 0, 1) := by decide +kernel
theorem dX8_game_73 : decode cX8_game 73 = .ok (.invokevirtual 127, 3) := by decide +kernel
theorem dX8_game_76 : decode cX8_game 76 = .ok (.ireturn, 1) := by decide +kernel
theorem dX8_game_77 : decode cX8_game 77 = .ok (.aload_n 0, 1) := by decide +kernel
theorem dX8_game_78 : decode cX8_game 78 = .ok (.getfield 7, 3) := by decide +kernel
theorem dX8_game_81 : decode cX8_game 81 = .ok (.bipush 14, 2) := by decide +kernel
theorem dX8_game_83 : decode cX8_game 83 = .ok (.iaload, 1) := by decide +kernel
theorem dX8_game_84 : decode cX8_game 84 = .ok (.ireturn, 1) := by decide +kernel
theorem dX8_game_85 : decode cX8_game 85 = .ok (.aload_n 0, 1) := by decide +kernel
theorem dX8_game_86 : decode cX8_game 86 = .ok (.invokevirtual 205, 3) := by decide +kernel
theorem dX8_game_89 : decode cX8_game 89 = .ok (.ireturn, 1) := by decide +kernel
theorem dX8_game_90 : decode cX8_game 90 = .ok (.aload_n 0, 1) := by decide +kernel
theorem dX8_game_91 : decode cX8_game 91 = .ok (.getfield 7, 3) := by decide +kernel
theorem dX8_game_94 : decode cX8_game 94 = .ok (.bipush 15, 2) := by decide +kernel
theorem dX8_game_96 : decode cX8_game 96 = .ok (.iaload, 1) := by decide +kernel
theorem dX8_game_97 : decode cX8_game 97 = .ok (.ireturn, 1) := by decide +kernel
theorem dX8_startOf_0 : decode cX8_startOf 0 = .ok (.aload_n 0, 1) := by decide +kernel
theorem dX8_startOf_1 : decode cX8_startOf 1 = .ok (.invokevirtual 105, 3) := by decide +kernel
theorem dX8_startOf_4 : decode cX8_startOf 4 = .ok (.ifCond .eq 24, 3) := by decide +kernel
theorem dX8_startOf_7 : decode cX8_startOf 7 = .ok (.aload_n 0, 1) := by decide +kernel
theorem dX8_startOf_8 : decode cX8_startOf 8 = .ok (.getfield 7, 3) := by decide +kernel
theorem dX8_startOf_11 : decode cX8_startOf 11 = .ok (.bipush 13, 2) := by decide +kernel
theorem dX8_startOf_13 : decode cX8_startOf 13 = .ok (.iaload, 1) := by decide +kernel
theorem dX8_startOf_14 : decode cX8_startOf 14 = .ok (.aload_n 0, 1) := by decide +kernel
theorem dX8_startOf_15 : decode cX8_startOf 15 = .ok (.getfield 7, 3) := by decide +kernel
theorem dX8_startOf_18 : decode cX8_startOf 18 = .ok (.bipush 6, 2) := by decide +kernel
theorem dX8_startOf_20 : decode cX8_startOf 20 = .ok (.iaload, 1) := by decide +kernel
theorem dX8_startOf_21 : decode cX8_startOf 21 = .ok (.iadd, 1) := by decide +kernel
theorem dX8_startOf_22 : decode cX8_startOf 22 = .ok (.bipush 10, 2) := by decide +kernel
theorem dX8_startOf_24 : decode cX8_startOf 24 = .ok (.iadd, 1) := by decide +kernel
theorem dX8_startOf_25 : decode cX8_startOf 25 = .ok (.goto 10, 3) := by decide +kernel
theorem dX8_startOf_28 : decode cX8_startOf 28 = .ok (.aload_n 0, 1) := by decide +kernel
theorem dX8_startOf_29 : decode cX8_startOf 29 = .ok (.getfield 7, 3) := by decide +kernel
theorem dX8_startOf_32 : decode cX8_startOf 32 = .ok (.bipush 9, 2) := by decide +kernel
theorem dX8_startOf_34 : decode cX8_startOf 34 = .ok (.iaload, 1) := by decide +kernel
theorem dX8_startOf_35 : decode cX8_startOf 35 = .ok (.istore_n 2, 1) := by decide +kernel
theorem dX8_startOf_36 : decode cX8_startOf 36 = .ok (.iconst 0, 1) := by decide +kernel
theorem dX8_startOf_37 : decode cX8_startOf 37 = .ok (.istore_n 3, 1) := by decide +kernel
theorem dX8_startOf_38 : decode cX8_startOf 38 = .ok (.iload_n 3, 1) := by decide +kernel
theorem dX8_startOf_39 : decode cX8_startOf 39 = .ok (.iload_n 1, 1) := by decide +kernel
theorem dX8_startOf_40 : decode cX8_startOf 40 = .ok (.if_icmp .ge 49, 3) := by decide +kernel
theorem dX8_startOf_43 : decode cX8_startOf 43 = .ok (.iload_n 2, 1) := by decide +kernel
theorem dX8_startOf_44 : decode cX8_startOf 44 = .ok (.aload_n 0, 1) := by decide +kernel
theorem dX8_startOf_45 : decode cX8_startOf 45 = .ok (.getfield 7, 3) := by decide +kernel
theorem dX8_startOf_48 : decode cX8_startOf 48 = .ok (.sipush 184, 3) := by decide +kernel
theorem dX8_startOf_51 : decode cX8_startOf 51 = .ok (.iload_n 3, 1) := by decide +kernel
theorem dX8_startOf_52 : decode cX8_startOf 52 = .ok (.iadd, 1) := by decide +kernel
theorem dX8_startOf_53 : decode cX8_startOf 53 = .ok (.iaload, 1) := by decide +kernel
theorem dX8_startOf_54 : decode cX8_startOf 54 = .ok (.if_icmp .le 7, 3) := by decide +kernel
theorem dX8_startOf_57 : decode cX8_startOf 57 = .ok (.iload_n 2, 1) := by decide +kernel
theorem dX8_startOf_58 : decode cX8_startOf 58 = .ok (.goto 13, 3) := by decide +kernel
theorem dX8_startOf_61 : decode cX8_startOf 61 = .ok (.aload_n 0, 1) := by decide +kernel
theorem dX8_startOf_62 : decode cX8_startOf 62 = .ok (.getfield 7, 3) := by decide +kernel
theorem dX8_startOf_65 : decode cX8_startOf 65 = .ok (.sipush 184, 3) := by decide +kernel
theorem dX8_startOf_68 : decode cX8_startOf 68 = .ok (.iload_n 3, 1) := by decide +kernel
theorem dX8_startOf_69 : decode cX8_startOf 69 = .ok (.iadd, 1) := by decide +kernel
theorem dX8_startOf_70 : decode cX8_startOf 70 = .ok (.iaload, 1) := by decide +kernel
theorem dX8_startOf_71 : decode cX8_startOf 71 = .ok (.aload_n 0, 1) := by decide +kernel
theorem dX8_startOf_72 : decode cX8_startOf 72 = .ok (.getfield 7, 3) := by decide +kernel
theorem dX8_startOf_75 : decode cX8_startOf 75 = .ok (.bipush 6, 2) := by decide +kernel
theorem dX8_startOf_77 : decode cX8_startOf 77 = .ok (.iaload, 1) := by decide +kernel
theorem dX8_startOf_78 : decode cX8_startOf 78 = .ok (.iadd, 1) := by decide +kernel
theorem dX8_startOf_79 : decode cX8_startOf 79 = .ok (.bipush 10, 2) := by decide +kernel
theorem dX8_startOf_81 : decode cX8_startOf 81 = .ok (.iadd, 1) := by decide +kernel
theorem dX8_startOf_82 : decode cX8_startOf 82 = .ok (.istore_n 2, 1) := by decide +kernel
theorem dX8_startOf_83 : decode cX8_startOf 83 = .ok (.iinc 3 1, 3) := by decide +kernel
theorem dX8_startOf_86 : decode cX8_startOf 86 = .ok (.goto (-48), 3) := by decide +kernel
theorem dX8_startOf_89 : decode cX8_startOf 89 = .ok (.iload_n 2, 1) := by decide +kernel
theorem dX8_startOf_90 : decode cX8_startOf 90 = .ok (.aload_n 0, 1) := by decide +kernel
theorem dX8_startOf_91 : decode cX8_startOf 91 = .ok (.getfield 7, 3) := by decide +kernel
theorem dX8_startOf_94 : decode cX8_startOf 94 = .ok (.sipush 184, 3) := by decide +kernel
theorem dX8_startOf_97 : decode cX8_startOf 97 = .ok (.iload_n 1, 1) := by decide +kernel
theorem dX8_startOf_98 : decode cX8_startOf 98 = .ok (.iadd, 1) := by decide +kernel
theorem dX8_startOf_99 : decode cX8_startOf 99 = .ok (.iaload, 1) := by decide +kernel
theorem dX8_startOf_100 : decode cX8_startOf 100 = .ok (.if_icmp .le 7, 3) := by decide +kernel
theorem dX8_startOf_103 : decode cX8_startOf 103 = .ok (.iload_n 2, 1) := by decide +kernel
theorem dX8_startOf_104 : decode cX8_startOf 104 = .ok (.goto 13, 3) := by decide +kernel
theorem dX8_startOf_107 : decode cX8_startOf 107 = .ok (.aload_n 0, 1) := by decide +kernel
theorem dX8_startOf_108 : decode cX8_startOf 108 = .ok (.getfield 7, 3) := by decide +kernel
theorem dX8_startOf_111 : decode cX8_startOf 111 = .ok (.sipush 184, 3) := by decide +kernel
theorem dX8_startOf_114 : decode cX8_startOf 114 = .ok (.iload_n 1, 1) := by decide +kernel
theorem dX8_startOf_115 : decode cX8_startOf 115 = .ok (.iadd, 1) := by decide +kernel
theorem dX8_startOf_116 : decode cX8_startOf 116 = .ok (.iaload, 1) := by decide +kernel
theorem dX8_startOf_117 : decode cX8_startOf 117 = .ok (.ireturn, 1) := by decide +kernel
theorem dX8_group_0 : decode cX8_group 0 = .ok (.aload_n 0, 1) := by decide +kernel
theorem dX8_group_1 : decode cX8_group 1 = .ok (.iload_n 1, 1) := by decide +kernel
theorem dX8_group_2 : decode cX8_group 2 = .ok (.invokevirtual 109, 3) := by decide +kernel
theorem dX8_group_5 : decode cX8_group 5 = .ok (.ifCond .eq 5, 3) := by decide +kernel
theorem dX8_group_8 : decode cX8_group 8 = .ok (.iconst (-1), 1) := by decide +kernel
theorem dX8_group_9 : decode cX8_group 9 = .ok (.ireturn, 1) := by decide +kernel
theorem dX8_group_10 : decode cX8_group 10 = .ok (.iload_n 2, 1) := by decide +kernel
theorem dX8_group_11 : decode cX8_group 11 = .ok (.ifCond .ne 16, 3) := by decide +kernel
theorem dX8_group_14 : decode cX8_group 14 = .ok (.aload_n 0, 1) := by decide +kernel
theorem dX8_group_15 : decode cX8_group 15 = .ok (.getfield 7, 3) := by decide +kernel
theorem dX8_group_18 : decode cX8_group 18 = .ok (.sipush 176, 3) := by decide +kernel
theorem dX8_group_21 : decode cX8_group 21 = .ok (.iload_n 1, 1) := by decide +kernel
theorem dX8_group_22 : decode cX8_group 22 = .ok (.iadd, 1) := by decide +kernel
theorem dX8_group_23 : decode cX8_group 23 = .ok (.iaload, 1) := by decide +kernel
theorem dX8_group_24 : decode cX8_group 24 = .ok (.goto 36, 3) := by decide +kernel
theorem dX8_group_27 : decode cX8_group 27 = .ok (.iload_n 2, 1) := by decide +kernel
theorem dX8_group_28 : decode cX8_group 28 = .ok (.iconst 1, 1) := by decide +kernel
theorem dX8_group_29 : decode cX8_group 29 = .ok (.if_icmp .ne 16, 3) := by decide +kernel
theorem dX8_group_32 : decode cX8_group 32 = .ok (.aload_n 0, 1) := by decide +kernel
theorem dX8_group_33 : decode cX8_group 33 = .ok (.getfield 7, 3) := by decide +kernel
theorem dX8_group_36 : decode cX8_group 36 = .ok (.sipush 184, 3) := by decide +kernel
theorem dX8_group_39 : decode cX8_group 39 = .ok (.iload_n 1, 1) := by decide +kernel
theorem dX8_group_40 : decode cX8_group 40 = .ok (.iadd, 1) := by decide +kernel
theorem dX8_group_41 : decode cX8_group 41 = .ok (.iaload, 1) := by decide +kernel
theorem dX8_group_42 : decode cX8_group 42 = .ok (.goto 18, 3) := by decide +kernel
theorem dX8_group_45 : decode cX8_group 45 = .ok (.iload_n 2, 1) := by decide +kernel
theorem dX8_group_46 : decode cX8_group 46 = .ok (.iconst 2, 1) := by decide +kernel
theorem dX8_group_47 : decode cX8_group 47 = .ok (.if_icmp .ne 11, 3) := by decide +kernel
theorem dX8_group_50 : decode cX8_group 50 = .ok (.aload_n 0, 1) := by decide +kernel
theorem dX8_group_51 : decode cX8_group 51 = .ok (.iload_n 1, 1) := by decide +kernel
theorem dX8_group_52 : decode cX8_group 52 = .ok (.invokevirtual 208, 3) := by decide +kernel
theorem dX8_group_55 : decode cX8_group 55 = .ok (.goto 5, 3) := by decide +kernel
theorem dX8_group_58 : decode cX8_group 58 = .ok (.bipush (-2), 2) := by decide +kernel
theorem dX8_group_60 : decode cX8_group 60 = .ok (.ireturn, 1) := by decide +kernel
theorem dX8_result_0 : decode cX8_result 0 = .ok (.iload_n 1, 1) := by decide +kernel
theorem dX8_result_1 : decode cX8_result 1 = .ok (.iconst 0, 1) := by decide +kernel
theorem dX8_result_2 : decode cX8_result 2 = .ok (.aload_n 0, 1) := by decide +kernel
theorem dX8_result_3 : decode cX8_result 3 = .ok (.getfield 7, 3) := by decide +kernel
theorem dX8_result_6 : decode cX8_result 6 = .ok (.iconst 4, 1) := by decide +kernel
theorem dX8_result_7 : decode cX8_result 7 = .ok (.iaload, 1) := by decide +kernel
theorem dX8_result_8 : decode cX8_result 8 = .ok (.iconst 1, 1) := by decide +kernel
theorem dX8_result_9 : decode cX8_result 9 = .ok (.isub, 1) := by decide +kernel
theorem dX8_result_10 : decode cX8_result 10 = .ok (.invokestatic 30, 3) := by decide +kernel
theorem dX8_result_13 : decode cX8_result 13 = .ok (.ifCond .ne 5, 3) := by decide +kernel
theorem dX8_result_16 : decode cX8_result 16 = .ok (.iconst (-1), 1) := by decide +kernel
theorem dX8_result_17 : decode cX8_result 17 = .ok (.ireturn, 1) := by decide +kernel
theorem dX8_result_18 : decode cX8_result 18 = .ok (.iload_n 2, 1) := by decide +kernel
theorem dX8_result_19 : decode cX8_result 19 = .ok (.iconst 0, 1) := by decide +kernel
theorem dX8_result_20 : decode cX8_result 20 = .ok (.bipush 6, 2) := by decide +kernel
theorem dX8_result_22 : decode cX8_result 22 = .ok (.invokestatic 30, 3) := by decide +kernel
theorem dX8_result_25 : decode cX8_result 25 = .ok (.ifCond .eq 21, 3) := by decide +kernel
theorem dX8_result_28 : decode cX8_result 28 = .ok (.aload_n 0, 1) := by decide +kernel
theorem dX8_result_29 : decode cX8_result 29 = .ok (.getfield 7, 3) := by decide +kernel
theorem dX8_result_32 : decode cX8_result 32 = .ok (.sipush 192, 3) := by decide +kernel
theorem dX8_result_35 : decode cX8_result 35 = .ok (.bipush 7, 2) := by decide +kernel
theorem dX8_result_37 : decode cX8_result 37 = .ok (.iload_n 1, 1) := by decide +kernel
theorem dX8_result_38 : decode cX8_result 38 = .ok (.imul, 1) := by decide +kernel
theorem dX8_result_39 : decode cX8_result 39 = .ok (.iadd, 1) := by decide +kernel
theorem dX8_result_40 : decode cX8_result 40 = .ok (.iload_n 2, 1) := by decide +kernel
theorem dX8_result_41 : decode cX8_result 41 = .ok (.iadd, 1) := by decide +kernel
theorem dX8_result_42 : decode cX8_result 42 = .ok (.iaload, 1) := by decide +kernel
theorem dX8_result_43 : decode cX8_result 43 = .ok (.goto 5, 3) := by decide +kernel
theorem dX8_result_46 : decode cX8_result 46 = .ok (.bipush (-2), 2) := by decide +kernel
theorem dX8_result_48 : decode cX8_result 48 = .ok (.ireturn, 1) := by decide +kernel
theorem dX8_faded_0 : decode cX8_faded 0 = .ok (.iconst 0, 1) := by decide +kernel
theorem dX8_faded_1 : decode cX8_faded 1 = .ok (.istore_n 1, 1) := by decide +kernel
theorem dX8_faded_2 : decode cX8_faded 2 = .ok (.iconst 0, 1) := by decide +kernel
theorem dX8_faded_3 : decode cX8_faded 3 = .ok (.istore_n 2, 1) := by decide +kernel
theorem dX8_faded_4 : decode cX8_faded 4 = .ok (.iload_n 2, 1) := by decide +kernel
theorem dX8_faded_5 : decode cX8_faded 5 = .ok (.aload_n 0, 1) := by decide +kernel
theorem dX8_faded_6 : decode cX8_faded 6 = .ok (.getfield 7, 3) := by decide +kernel
theorem dX8_faded_9 : decode cX8_faded 9 = .ok (.iconst 2, 1) := by decide +kernel
theorem dX8_faded_10 : decode cX8_faded 10 = .ok (.iaload, 1) := by decide +kernel
theorem dX8_faded_11 : decode cX8_faded 11 = .ok (.if_icmp .ge 31, 3) := by decide +kernel
theorem dX8_faded_14 : decode cX8_faded 14 = .ok (.iload_n 1, 1) := by decide +kernel
theorem dX8_faded_15 : decode cX8_faded 15 = .ok (.aload_n 0, 1) := by decide +kernel
theorem dX8_faded_16 : decode cX8_faded 16 = .ok (.getfield 7, 3) := by decide +kernel
theorem dX8_faded_19 : decode cX8_faded 19 = .ok (.sipush 164, 3) := by decide +kernel
theorem dX8_faded_22 : decode cX8_faded 22 = .ok (.iload_n 2, 1) := by decide +kernel
theorem dX8_faded_23 : decode cX8_faded 23 = .ok (.iadd, 1) := by decide +kernel
theorem dX8_faded_24 : decode cX8_faded 24 = .ok (.iaload, 1) := by decide +kernel
theorem dX8_faded_25 : decode cX8_faded 25 = .ok (.iconst 4, 1) := by decide +kernel
theorem dX8_faded_26 : decode cX8_faded 26 = .ok (.if_icmp .ge 7, 3) := by decide +kernel
theorem dX8_faded_29 : decode cX8_faded 29 = .ok (.iconst 1, 1) := by decide +kernel
theorem dX8_faded_30 : decode cX8_faded 30 = .ok (.goto 4, 3) := by decide +kernel
theorem dX8_faded_33 : decode cX8_faded 33 = .ok (.iconst 0, 1) := by decide +kernel
theorem dX8_faded_34 : decode cX8_faded 34 = .ok (.iadd, 1) := by decide +kernel
theorem dX8_faded_35 : decode cX8_faded 35 = .ok (.istore_n 1, 1) := by decide +kernel
theorem dX8_faded_36 : decode cX8_faded 36 = .ok (.iinc 2 1, 3) := by decide +kernel
theorem dX8_faded_39 : decode cX8_faded 39 = .ok (.goto (-35), 3) := by decide +kernel
theorem dX8_faded_42 : decode cX8_faded 42 = .ok (.iload_n 1, 1) := by decide +kernel
theorem dX8_faded_43 : decode cX8_faded 43 = .ok (.ireturn, 1) := by decide +kernel
theorem dX8_differences_0 : decode cX8_differences 0 = .ok (.iload_n 1, 1) := by decide +kernel
theorem dX8_differences_1 : decode cX8_differences 1 = .ok (.tableswitch 62 0 4 #[35, 40, 45, 50, 55], 35) := by decide +kernel
theorem dX8_differences_36 : decode cX8_differences 36 = .ok (.aload_n 0, 1) := by decide +kernel
theorem dX8_differences_37 : decode cX8_differences 37 = .ok (.invokevirtual 118, 3) := by decide +kernel
theorem dX8_differences_40 : decode cX8_differences 40 = .ok (.ireturn, 1) := by decide +kernel
theorem dX8_differences_41 : decode cX8_differences 41 = .ok (.aload_n 0, 1) := by decide +kernel
theorem dX8_differences_42 : decode cX8_differences 42 = .ok (.invokevirtual 121, 3) := by decide +kernel
theorem dX8_differences_45 : decode cX8_differences 45 = .ok (.ireturn, 1) := by decide +kernel
theorem dX8_differences_46 : decode cX8_differences 46 = .ok (.aload_n 0, 1) := by decide +kernel
theorem dX8_differences_47 : decode cX8_differences 47 = .ok (.invokevirtual 211, 3) := by decide +kernel
theorem dX8_differences_50 : decode cX8_differences 50 = .ok (.ireturn, 1) := by decide +kernel
theorem dX8_differences_51 : decode cX8_differences 51 = .ok (.aload_n 0, 1) := by decide +kernel
theorem dX8_differences_52 : decode cX8_differences 52 = .ok (.invokevirtual 190, 3) := by decide +kernel
theorem dX8_differences_55 : decode cX8_differences 55 = .ok (.ireturn, 1) := by decide +kernel
theorem dX8_differences_56 : decode cX8_differences 56 = .ok (.aload_n 0, 1) := by decide +kernel
theorem dX8_differences_57 : decode cX8_differences 57 = .ok (.iconst 1, 1) := by decide +kernel
theorem dX8_differences_58 : decode cX8_differences 58 = .ok (.iconst 0, 1) := by decide +kernel
theorem dX8_differences_59 : decode cX8_differences 59 = .ok (.invokevirtual 186, 3) := by decide +kernel
theorem dX8_differences_62 : decode cX8_differences 62 = .ok (.ireturn, 1) := by decide +kernel
theorem dX8_differences_63 : decode cX8_differences 63 = .ok (.bipush (-2), 2) := by decide +kernel
theorem dX8_differences_65 : decode cX8_differences 65 = .ok (.ireturn, 1) := by decide +kernel
theorem dX8_wordLetter_0 : decode cX8_wordLetter 0 = .ok (.iload_n 0, 1) := by decide +kernel
theorem dX8_wordLetter_1 : decode cX8_wordLetter 1 = .ok (.tableswitch 267 0 6 #[43, 75, 97, 129, 161, 203, 235], 43) := by decide +kernel
theorem dX8_wordLetter_44 : decode cX8_wordLetter 44 = .ok (.iload_n 1, 1) := by decide +kernel
theorem dX8_wordLetter_45 : decode cX8_wordLetter 45 = .ok (.ifCond .ne 8, 3) := by decide +kernel
theorem dX8_wordLetter_48 : decode cX8_wordLetter 48 = .ok (.bipush 116, 2) := by decide +kernel
theorem dX8_wordLetter_50 : decode cX8_wordLetter 50 = .ok (.goto 25, 3) := by decide +kernel
theorem dX8_wordLetter_53 : decode cX8_wordLetter 53 = .ok (.iload_n 1, 1) := by decide +kernel
theorem dX8_wordLetter_54 : decode cX8_wordLetter 54 = .ok (.iconst 1, 1) := by decide +kernel
theorem dX8_wordLetter_55 : decode cX8_wordLetter 55 = .ok (.if_icmp .ne 8, 3) := by decide +kernel
theorem dX8_wordLetter_58 : decode cX8_wordLetter 58 = .ok (.bipush 97, 2) := by decide +kernel
theorem dX8_wordLetter_60 : decode cX8_wordLetter 60 = .ok (.goto 15, 3) := by decide +kernel
theorem dX8_wordLetter_63 : decode cX8_wordLetter 63 = .ok (.iload_n 1, 1) := by decide +kernel
theorem dX8_wordLetter_64 : decode cX8_wordLetter 64 = .ok (.iconst 2, 1) := by decide +kernel
theorem dX8_wordLetter_65 : decode cX8_wordLetter 65 = .ok (.if_icmp .ne 8, 3) := by decide +kernel
theorem dX8_wordLetter_68 : decode cX8_wordLetter 68 = .ok (.bipush 107, 2) := by decide +kernel
theorem dX8_wordLetter_70 : decode cX8_wordLetter 70 = .ok (.goto 5, 3) := by decide +kernel
theorem dX8_wordLetter_73 : decode cX8_wordLetter 73 = .ok (.bipush 101, 2) := by decide +kernel
theorem dX8_wordLetter_75 : decode cX8_wordLetter 75 = .ok (.ireturn, 1) := by decide +kernel
theorem dX8_wordLetter_76 : decode cX8_wordLetter 76 = .ok (.iload_n 1, 1) := by decide +kernel
theorem dX8_wordLetter_77 : decode cX8_wordLetter 77 = .ok (.ifCond .ne 8, 3) := by decide +kernel
theorem dX8_wordLetter_80 : decode cX8_wordLetter 80 = .ok (.bipush 108, 2) := by decide +kernel
theorem dX8_wordLetter_82 : decode cX8_wordLetter 82 = .ok (.goto 15, 3) := by decide +kernel
theorem dX8_wordLetter_85 : decode cX8_wordLetter 85 = .ok (.iload_n 1, 1) := by decide +kernel
theorem dX8_wordLetter_86 : decode cX8_wordLetter 86 = .ok (.iconst 1, 1) := by decide +kernel
theorem dX8_wordLetter_87 : decode cX8_wordLetter 87 = .ok (.if_icmp .ne 8, 3) := by decide +kernel
theorem dX8_wordLetter_90 : decode cX8_wordLetter 90 = .ok (.bipush 97, 2) := by decide +kernel
theorem dX8_wordLetter_92 : decode cX8_wordLetter 92 = .ok (.goto 5, 3) := by decide +kernel
theorem dX8_wordLetter_95 : decode cX8_wordLetter 95 = .ok (.bipush 121, 2) := by decide +kernel
theorem dX8_wordLetter_97 : decode cX8_wordLetter 97 = .ok (.ireturn, 1) := by decide +kernel
theorem dX8_wordLetter_98 : decode cX8_wordLetter 98 = .ok (.iload_n 1, 1) := by decide +kernel
theorem dX8_wordLetter_99 : decode cX8_wordLetter 99 = .ok (.ifCond .ne 8, 3) := by decide +kernel
theorem dX8_wordLetter_102 : decode cX8_wordLetter 102 = .ok (.bipush 111, 2) := by decide +kernel
theorem dX8_wordLetter_104 : decode cX8_wordLetter 104 = .ok (.goto 25, 3) := by decide +kernel
theorem dX8_wordLetter_107 : decode cX8_wordLetter 107 = .ok (.iload_n 1, 1) := by decide +kernel
theorem dX8_wordLetter_108 : decode cX8_wordLetter 108 = .ok (.iconst 1, 1) := by decide +kernel
theorem dX8_wordLetter_109 : decode cX8_wordLetter 109 = .ok (.if_icmp .ne 8, 3) := by decide +kernel
theorem dX8_wordLetter_112 : decode cX8_wordLetter 112 = .ok (.bipush 112, 2) := by decide +kernel
theorem dX8_wordLetter_114 : decode cX8_wordLetter 114 = .ok (.goto 15, 3) := by decide +kernel
theorem dX8_wordLetter_117 : decode cX8_wordLetter 117 = .ok (.iload_n 1, 1) := by decide +kernel
theorem dX8_wordLetter_118 : decode cX8_wordLetter 118 = .ok (.iconst 2, 1) := by decide +kernel
theorem dX8_wordLetter_119 : decode cX8_wordLetter 119 = .ok (.if_icmp .ne 8, 3) := by decide +kernel
theorem dX8_wordLetter_122 : decode cX8_wordLetter 122 = .ok (.bipush 101, 2) := by decide +kernel
theorem dX8_wordLetter_124 : decode cX8_wordLetter 124 = .ok (.goto 5, 3) := by decide +kernel
theorem dX8_wordLetter_127 : decode cX8_wordLetter 127 = .ok (.bipush 110, 2) := by decide +kernel
theorem dX8_wordLetter_129 : decode cX8_wordLetter 129 = .ok (.ireturn, 1) := by decide +kernel
theorem dX8_wordLetter_130 : decode cX8_wordLetter 130 = .ok (.iload_n 1, 1) := by decide +kernel
theorem dX8_wordLetter_131 : decode cX8_wordLetter 131 = .ok (.ifCond .ne 8, 3) := by decide +kernel
theorem dX8_wordLetter_134 : decode cX8_wordLetter 134 = .ok (.bipush 114, 2) := by decide +kernel
theorem dX8_wordLetter_136 : decode cX8_wordLetter 136 = .ok (.goto 25, 3) := by decide +kernel
theorem dX8_wordLetter_139 : decode cX8_wordLetter 139 = .ok (.iload_n 1, 1) := by decide +kernel
theorem dX8_wordLetter_140 : decode cX8_wordLetter 140 = .ok (.iconst 1, 1) := by decide +kernel
theorem dX8_wordLetter_141 : decode cX8_wordLetter 141 = .ok (.if_icmp .ne 8, 3) := by decide +kernel
theorem dX8_wordLetter_144 : decode cX8_wordLetter 144 = .ok (.bipush 101, 2) := by decide +kernel
theorem dX8_wordLetter_146 : decode cX8_wordLetter 146 = .ok (.goto 15, 3) := by decide +kernel
theorem dX8_wordLetter_149 : decode cX8_wordLetter 149 = .ok (.iload_n 1, 1) := by decide +kernel
theorem dX8_wordLetter_150 : decode cX8_wordLetter 150 = .ok (.iconst 2, 1) := by decide +kernel
theorem dX8_wordLetter_151 : decode cX8_wordLetter 151 = .ok (.if_icmp .ne 8, 3) := by decide +kernel
theorem dX8_wordLetter_154 : decode cX8_wordLetter 154 = .ok (.bipush 97, 2) := by decide +kernel
theorem dX8_wordLetter_156 : decode cX8_wordLetter 156 = .ok (.goto 5, 3) := by decide +kernel
theorem dX8_wordLetter_159 : decode cX8_wordLetter 159 = .ok (.bipush 100, 2) := by decide +kernel
theorem dX8_wordLetter_161 : decode cX8_wordLetter 161 = .ok (.ireturn, 1) := by decide +kernel
theorem dX8_wordLetter_162 : decode cX8_wordLetter 162 = .ok (.iload_n 1, 1) := by decide +kernel
theorem dX8_wordLetter_163 : decode cX8_wordLetter 163 = .ok (.ifCond .ne 8, 3) := by decide +kernel
theorem dX8_wordLetter_166 : decode cX8_wordLetter 166 = .ok (.bipush 110, 2) := by decide +kernel
theorem dX8_wordLetter_168 : decode cX8_wordLetter 168 = .ok (.goto 35, 3) := by decide +kernel
theorem dX8_wordLetter_171 : decode cX8_wordLetter 171 = .ok (.iload_n 1, 1) := by decide +kernel
theorem dX8_wordLetter_172 : decode cX8_wordLetter 172 = .ok (.iconst 1, 1) := by decide +kernel
theorem dX8_wordLetter_173 : decode cX8_wordLetter 173 = .ok (.if_icmp .ne 8, 3) := by decide +kernel
theorem dX8_wordLetter_176 : decode cX8_wordLetter 176 = .ok (.bipush 117, 2) := by decide +kernel
theorem dX8_wordLetter_178 : decode cX8_wordLetter 178 = .ok (.goto 25, 3) := by decide +kernel
theorem dX8_wordLetter_181 : decode cX8_wordLetter 181 = .ok (.iload_n 1, 1) := by decide +kernel
theorem dX8_wordLetter_182 : decode cX8_wordLetter 182 = .ok (.iconst 2, 1) := by decide +kernel
theorem dX8_wordLetter_183 : decode cX8_wordLetter 183 = .ok (.if_icmp .ne 8, 3) := by decide +kernel
theorem dX8_wordLetter_186 : decode cX8_wordLetter 186 = .ok (.bipush 100, 2) := by decide +kernel
theorem dX8_wordLetter_188 : decode cX8_wordLetter 188 = .ok (.goto 15, 3) := by decide +kernel
theorem dX8_wordLetter_191 : decode cX8_wordLetter 191 = .ok (.iload_n 1, 1) := by decide +kernel
theorem dX8_wordLetter_192 : decode cX8_wordLetter 192 = .ok (.iconst 3, 1) := by decide +kernel
theorem dX8_wordLetter_193 : decode cX8_wordLetter 193 = .ok (.if_icmp .ne 8, 3) := by decide +kernel
theorem dX8_wordLetter_196 : decode cX8_wordLetter 196 = .ok (.bipush 103, 2) := by decide +kernel
theorem dX8_wordLetter_198 : decode cX8_wordLetter 198 = .ok (.goto 5, 3) := by decide +kernel
theorem dX8_wordLetter_201 : decode cX8_wordLetter 201 = .ok (.bipush 101, 2) := by decide +kernel
theorem dX8_wordLetter_203 : decode cX8_wordLetter 203 = .ok (.ireturn, 1) := by decide +kernel
theorem dX8_wordLetter_204 : decode cX8_wordLetter 204 = .ok (.iload_n 1, 1) := by decide +kernel
theorem dX8_wordLetter_205 : decode cX8_wordLetter 205 = .ok (.ifCond .ne 8, 3) := by decide +kernel
theorem dX8_wordLetter_208 : decode cX8_wordLetter 208 = .ok (.bipush 114, 2) := by decide +kernel
theorem dX8_wordLetter_210 : decode cX8_wordLetter 210 = .ok (.goto 25, 3) := by decide +kernel
theorem dX8_wordLetter_213 : decode cX8_wordLetter 213 = .ok (.iload_n 1, 1) := by decide +kernel
theorem dX8_wordLetter_214 : decode cX8_wordLetter 214 = .ok (.iconst 1, 1) := by decide +kernel
theorem dX8_wordLetter_215 : decode cX8_wordLetter 215 = .ok (.if_icmp .ne 8, 3) := by decide +kernel
theorem dX8_wordLetter_218 : decode cX8_wordLetter 218 = .ok (.bipush 101, 2) := by decide +kernel
theorem dX8_wordLetter_220 : decode cX8_wordLetter 220 = .ok (.goto 15, 3) := by decide +kernel
theorem dX8_wordLetter_223 : decode cX8_wordLetter 223 = .ok (.iload_n 1, 1) := by decide +kernel
theorem dX8_wordLetter_224 : decode cX8_wordLetter 224 = .ok (.iconst 2, 1) := by decide +kernel
theorem dX8_wordLetter_225 : decode cX8_wordLetter 225 = .ok (.if_icmp .ne 8, 3) := by decide +kernel
theorem dX8_wordLetter_228 : decode cX8_wordLetter 228 = .ok (.bipush 115, 2) := by decide +kernel
theorem dX8_wordLetter_230 : decode cX8_wordLetter 230 = .ok (.goto 5, 3) := by decide +kernel
theorem dX8_wordLetter_233 : decode cX8_wordLetter 233 = .ok (.bipush 116, 2) := by decide +kernel
theorem dX8_wordLetter_235 : decode cX8_wordLetter 235 = .ok (.ireturn, 1) := by decide +kernel
theorem dX8_wordLetter_236 : decode cX8_wordLetter 236 = .ok (.iload_n 1, 1) := by decide +kernel
theorem dX8_wordLetter_237 : decode cX8_wordLetter 237 = .ok (.ifCond .ne 8, 3) := by decide +kernel
theorem dX8_wordLetter_240 : decode cX8_wordLetter 240 = .ok (.bipush 111, 2) := by decide +kernel
theorem dX8_wordLetter_242 : decode cX8_wordLetter 242 = .ok (.goto 25, 3) := by decide +kernel
theorem dX8_wordLetter_245 : decode cX8_wordLetter 245 = .ok (.iload_n 1, 1) := by decide +kernel
theorem dX8_wordLetter_246 : decode cX8_wordLetter 246 = .ok (.iconst 1, 1) := by decide +kernel
theorem dX8_wordLetter_247 : decode cX8_wordLetter 247 = .ok (.if_icmp .ne 8, 3) := by decide +kernel
theorem dX8_wordLetter_250 : decode cX8_wordLetter 250 = .ok (.bipush 118, 2) := by decide +kernel
theorem dX8_wordLetter_252 : decode cX8_wordLetter 252 = .ok (.goto 15, 3) := by decide +kernel
theorem dX8_wordLetter_255 : decode cX8_wordLetter 255 = .ok (.iload_n 1, 1) := by decide +kernel
theorem dX8_wordLetter_256 : decode cX8_wordLetter 256 = .ok (.iconst 2, 1) := by decide +kernel
theorem dX8_wordLetter_257 : decode cX8_wordLetter 257 = .ok (.if_icmp .ne 8, 3) := by decide +kernel
theorem dX8_wordLetter_260 : decode cX8_wordLetter 260 = .ok (.bipush 101, 2) := by decide +kernel
theorem dX8_wordLetter_262 : decode cX8_wordLetter 262 = .ok (.goto 5, 3) := by decide +kernel
theorem dX8_wordLetter_265 : decode cX8_wordLetter 265 = .ok (.bipush 114, 2) := by decide +kernel
theorem dX8_wordLetter_267 : decode cX8_wordLetter 267 = .ok (.ireturn, 1) := by decide +kernel
theorem dX8_wordLetter_268 : decode cX8_wordLetter 268 = .ok (.iload_n 1, 1) := by decide +kernel
theorem dX8_wordLetter_269 : decode cX8_wordLetter 269 = .ok (.ifCond .ne 8, 3) := by decide +kernel
theorem dX8_wordLetter_272 : decode cX8_wordLetter 272 = .ok (.bipush 117, 2) := by decide +kernel
theorem dX8_wordLetter_274 : decode cX8_wordLetter 274 = .ok (.goto 5, 3) := by decide +kernel
theorem dX8_wordLetter_277 : decode cX8_wordLetter 277 = .ok (.bipush 112, 2) := by decide +kernel
theorem dX8_wordLetter_279 : decode cX8_wordLetter 279 = .ok (.ireturn, 1) := by decide +kernel
theorem dX8_lettersOf_0 : decode cX8_lettersOf 0 = .ok (.iload_n 0, 1) := by decide +kernel
theorem dX8_lettersOf_1 : decode cX8_lettersOf 1 = .ok (.iconst 1, 1) := by decide +kernel
theorem dX8_lettersOf_2 : decode cX8_lettersOf 2 = .ok (.if_icmp .ne 7, 3) := by decide +kernel
theorem dX8_lettersOf_5 : decode cX8_lettersOf 5 = .ok (.iconst 3, 1) := by decide +kernel
theorem dX8_lettersOf_6 : decode cX8_lettersOf 6 = .ok (.goto 23, 3) := by decide +kernel
theorem dX8_lettersOf_9 : decode cX8_lettersOf 9 = .ok (.iload_n 0, 1) := by decide +kernel
theorem dX8_lettersOf_10 : decode cX8_lettersOf 10 = .ok (.iconst 4, 1) := by decide +kernel
theorem dX8_lettersOf_11 : decode cX8_lettersOf 11 = .ok (.if_icmp .ne 7, 3) := by decide +kernel
theorem dX8_lettersOf_14 : decode cX8_lettersOf 14 = .ok (.iconst 5, 1) := by decide +kernel
theorem dX8_lettersOf_15 : decode cX8_lettersOf 15 = .ok (.goto 14, 3) := by decide +kernel
theorem dX8_lettersOf_18 : decode cX8_lettersOf 18 = .ok (.iload_n 0, 1) := by decide +kernel
theorem dX8_lettersOf_19 : decode cX8_lettersOf 19 = .ok (.bipush 7, 2) := by decide +kernel
theorem dX8_lettersOf_21 : decode cX8_lettersOf 21 = .ok (.if_icmp .ne 7, 3) := by decide +kernel
theorem dX8_lettersOf_24 : decode cX8_lettersOf 24 = .ok (.iconst 2, 1) := by decide +kernel
theorem dX8_lettersOf_25 : decode cX8_lettersOf 25 = .ok (.goto 4, 3) := by decide +kernel
theorem dX8_lettersOf_28 : decode cX8_lettersOf 28 = .ok (.iconst 4, 1) := by decide +kernel
theorem dX8_lettersOf_29 : decode cX8_lettersOf 29 = .ok (.ireturn, 1) := by decide +kernel
theorem dX8_argumentsOf_0 : decode cX8_argumentsOf 0 = .ok (.iload_n 0, 1) := by decide +kernel
theorem dX8_argumentsOf_1 : decode cX8_argumentsOf 1 = .ok (.iconst 1, 1) := by decide +kernel
theorem dX8_argumentsOf_2 : decode cX8_argumentsOf 2 = .ok (.if_icmp .ne 7, 3) := by decide +kernel
theorem dX8_argumentsOf_5 : decode cX8_argumentsOf 5 = .ok (.iconst 2, 1) := by decide +kernel
theorem dX8_argumentsOf_6 : decode cX8_argumentsOf 6 = .ok (.goto 14, 3) := by decide +kernel
theorem dX8_argumentsOf_9 : decode cX8_argumentsOf 9 = .ok (.iload_n 0, 1) := by decide +kernel
theorem dX8_argumentsOf_10 : decode cX8_argumentsOf 10 = .ok (.bipush 6, 2) := by decide +kernel
theorem dX8_argumentsOf_12 : decode cX8_argumentsOf 12 = .ok (.if_icmp .ge 7, 3) := by decide +kernel
theorem dX8_argumentsOf_15 : decode cX8_argumentsOf 15 = .ok (.iconst 1, 1) := by decide +kernel
theorem dX8_argumentsOf_16 : decode cX8_argumentsOf 16 = .ok (.goto 4, 3) := by decide +kernel
theorem dX8_argumentsOf_19 : decode cX8_argumentsOf 19 = .ok (.iconst 0, 1) := by decide +kernel
theorem dX8_argumentsOf_20 : decode cX8_argumentsOf 20 = .ok (.ireturn, 1) := by decide +kernel
theorem dX8_put_0 : decode cX8_put 0 = .ok (.aload_n 0, 1) := by decide +kernel
theorem dX8_put_1 : decode cX8_put 1 = .ok (.getfield 27, 3) := by decide +kernel
theorem dX8_put_4 : decode cX8_put 4 = .ok (.aload_n 0, 1) := by decide +kernel
theorem dX8_put_5 : decode cX8_put 5 = .ok (.getfield 214, 3) := by decide +kernel
theorem dX8_put_8 : decode cX8_put 8 = .ok (.iload_n 1, 1) := by decide +kernel
theorem dX8_put_9 : decode cX8_put 9 = .ok (.iastore, 1) := by decide +kernel
theorem dX8_put_10 : decode cX8_put 10 = .ok (.aload_n 0, 1) := by decide +kernel
theorem dX8_put_11 : decode cX8_put 11 = .ok (.dup, 1) := by decide +kernel
theorem dX8_put_12 : decode cX8_put 12 = .ok (.getfield 214, 3) := by decide +kernel
theorem dX8_put_15 : decode cX8_put 15 = .ok (.iconst 1, 1) := by decide +kernel
theorem dX8_put_16 : decode cX8_put 16 = .ok (.iadd, 1) := by decide +kernel
theorem dX8_put_17 : decode cX8_put 17 = .ok (.putfield 214, 3) := by decide +kernel
theorem dX8_put_20 : decode cX8_put 20 = .ok (.return_, 1) := by decide +kernel
theorem dX8_putNumber_0 : decode cX8_putNumber 0 = .ok (.iconst 1, 1) := by decide +kernel
theorem dX8_putNumber_1 : decode cX8_putNumber 1 = .ok (.istore_n 2, 1) := by decide +kernel
theorem dX8_putNumber_2 : decode cX8_putNumber 2 = .ok (.iload_n 1, 1) := by decide +kernel
theorem dX8_putNumber_3 : decode cX8_putNumber 3 = .ok (.iload_n 2, 1) := by decide +kernel
theorem dX8_putNumber_4 : decode cX8_putNumber 4 = .ok (.idiv, 1) := by decide +kernel
theorem dX8_putNumber_5 : decode cX8_putNumber 5 = .ok (.bipush 9, 2) := by decide +kernel
theorem dX8_putNumber_7 : decode cX8_putNumber 7 = .ok (.if_icmp .le 11, 3) := by decide +kernel
theorem dX8_putNumber_10 : decode cX8_putNumber 10 = .ok (.iload_n 2, 1) := by decide +kernel
theorem dX8_putNumber_11 : decode cX8_putNumber 11 = .ok (.bipush 10, 2) := by decide +kernel
theorem dX8_putNumber_13 : decode cX8_putNumber 13 = .ok (.imul, 1) := by decide +kernel
theorem dX8_putNumber_14 : decode cX8_putNumber 14 = .ok (.istore_n 2, 1) := by decide +kernel
theorem dX8_putNumber_15 : decode cX8_putNumber 15 = .ok (.goto (-13), 3) := by decide +kernel
theorem dX8_putNumber_18 : decode cX8_putNumber 18 = .ok (.iload_n 2, 1) := by decide +kernel
theorem dX8_putNumber_19 : decode cX8_putNumber 19 = .ok (.ifCond .le 24, 3) := by decide +kernel
theorem dX8_putNumber_22 : decode cX8_putNumber 22 = .ok (.aload_n 0, 1) := by decide +kernel
theorem dX8_putNumber_23 : decode cX8_putNumber 23 = .ok (.bipush 48, 2) := by decide +kernel
theorem dX8_putNumber_25 : decode cX8_putNumber 25 = .ok (.iload_n 1, 1) := by decide +kernel
theorem dX8_putNumber_26 : decode cX8_putNumber 26 = .ok (.iload_n 2, 1) := by decide +kernel
theorem dX8_putNumber_27 : decode cX8_putNumber 27 = .ok (.idiv, 1) := by decide +kernel
theorem dX8_putNumber_28 : decode cX8_putNumber 28 = .ok (.bipush 10, 2) := by decide +kernel
theorem dX8_putNumber_30 : decode cX8_putNumber 30 = .ok (.irem, 1) := by decide +kernel
theorem dX8_putNumber_31 : decode cX8_putNumber 31 = .ok (.iadd, 1) := by decide +kernel
theorem dX8_putNumber_32 : decode cX8_putNumber 32 = .ok (.invokevirtual 217, 3) := by decide +kernel
theorem dX8_putNumber_35 : decode cX8_putNumber 35 = .ok (.iload_n 2, 1) := by decide +kernel
theorem dX8_putNumber_36 : decode cX8_putNumber 36 = .ok (.bipush 10, 2) := by decide +kernel
theorem dX8_putNumber_38 : decode cX8_putNumber 38 = .ok (.idiv, 1) := by decide +kernel
theorem dX8_putNumber_39 : decode cX8_putNumber 39 = .ok (.istore_n 2, 1) := by decide +kernel
theorem dX8_putNumber_40 : decode cX8_putNumber 40 = .ok (.goto (-22), 3) := by decide +kernel
theorem dX8_putNumber_43 : decode cX8_putNumber 43 = .ok (.return_, 1) := by decide +kernel
theorem dX8_spell_0 : decode cX8_spell 0 = .ok (.sipush 402, 3) := by decide +kernel
theorem dX8_spell_3 : decode cX8_spell 3 = .ok (.iconst 4, 1) := by decide +kernel
theorem dX8_spell_4 : decode cX8_spell 4 = .ok (.iload_n 1, 1) := by decide +kernel
theorem dX8_spell_5 : decode cX8_spell 5 = .ok (.imul, 1) := by decide +kernel
theorem dX8_spell_6 : decode cX8_spell 6 = .ok (.iadd, 1) := by decide +kernel
theorem dX8_spell_7 : decode cX8_spell 7 = .ok (.istore_n 2, 1) := by decide +kernel
theorem dX8_spell_8 : decode cX8_spell 8 = .ok (.aload_n 0, 1) := by decide +kernel
theorem dX8_spell_9 : decode cX8_spell 9 = .ok (.getfield 7, 3) := by decide +kernel
theorem dX8_spell_12 : decode cX8_spell 12 = .ok (.iload_n 2, 1) := by decide +kernel
theorem dX8_spell_13 : decode cX8_spell 13 = .ok (.iconst 1, 1) := by decide +kernel
theorem dX8_spell_14 : decode cX8_spell 14 = .ok (.iadd, 1) := by decide +kernel
theorem dX8_spell_15 : decode cX8_spell 15 = .ok (.iaload, 1) := by decide +kernel
theorem dX8_spell_16 : decode cX8_spell 16 = .ok (.istore_n 3, 1) := by decide +kernel
theorem dX8_spell_17 : decode cX8_spell 17 = .ok (.aload_n 0, 1) := by decide +kernel
theorem dX8_spell_18 : decode cX8_spell 18 = .ok (.iconst 0, 1) := by decide +kernel
theorem dX8_spell_19 : decode cX8_spell 19 = .ok (.putfield 214, 3) := by decide +kernel
theorem dX8_spell_22 : decode cX8_spell 22 = .ok (.aload_n 0, 1) := by decide +kernel
theorem dX8_spell_23 : decode cX8_spell 23 = .ok (.aload_n 0, 1) := by decide +kernel
theorem dX8_spell_24 : decode cX8_spell 24 = .ok (.getfield 7, 3) := by decide +kernel
theorem dX8_spell_27 : decode cX8_spell 27 = .ok (.iload_n 2, 1) := by decide +kernel
theorem dX8_spell_28 : decode cX8_spell 28 = .ok (.iaload, 1) := by decide +kernel
theorem dX8_spell_29 : decode cX8_spell 29 = .ok (.invokevirtual 220, 3) := by decide +kernel
theorem dX8_spell_32 : decode cX8_spell 32 = .ok (.aload_n 0, 1) := by decide +kernel
theorem dX8_spell_33 : decode cX8_spell 33 = .ok (.bipush 58, 2) := by decide +kernel
theorem dX8_spell_35 : decode cX8_spell 35 = .ok (.invokevirtual 217, 3) := by decide +kernel
theorem dX8_spell_38 : decode cX8_spell 38 = .ok (.iconst 0, 1) := by decide +kernel
theorem dX8_spell_39 : decode cX8_spell 39 = .ok (.istore 4, 2) := by decide +kernel
theorem dX8_spell_41 : decode cX8_spell 41 = .ok (.iload 4, 2) := by decide +kernel
theorem dX8_spell_43 : decode cX8_spell 43 = .ok (.iload_n 3, 1) := by decide +kernel
theorem dX8_spell_44 : decode cX8_spell 44 = .ok (.invokestatic 223, 3) := by decide +kernel
theorem dX8_spell_47 : decode cX8_spell 47 = .ok (.if_icmp .ge 19, 3) := by decide +kernel
theorem dX8_spell_50 : decode cX8_spell 50 = .ok (.aload_n 0, 1) := by decide +kernel
theorem dX8_spell_51 : decode cX8_spell 51 = .ok (.iload_n 3, 1) := by decide +kernel
theorem dX8_spell_52 : decode cX8_spell 52 = .ok (.iload 4, 2) := by decide +kernel
theorem dX8_spell_54 : decode cX8_spell 54 = .ok (.invokestatic 226, 3) := by decide +kernel
theorem dX8_spell_57 : decode cX8_spell 57 = .ok (.invokevirtual 217, 3) := by decide +kernel
theorem dX8_spell_60 : decode cX8_spell 60 = .ok (.iinc 4 1, 3) := by decide +kernel
theorem dX8_spell_63 : decode cX8_spell 63 = .ok (.goto (-22), 3) := by decide +kernel
theorem dX8_spell_66 : decode cX8_spell 66 = .ok (.iconst 0, 1) := by decide +kernel
theorem dX8_spell_67 : decode cX8_spell 67 = .ok (.istore 4, 2) := by decide +kernel
theorem dX8_spell_69 : decode cX8_spell 69 = .ok (.iload 4, 2) := by decide +kernel
theorem dX8_spell_71 : decode cX8_spell 71 = .ok (.iload_n 3, 1) := by decide +kernel
theorem dX8_spell_72 : decode cX8_spell 72 = .ok (.invokestatic 229, 3) := by decide +kernel
theorem dX8_spell_75 : decode cX8_spell 75 = .ok (.if_icmp .ge 30, 3) := by decide +kernel
theorem dX8_spell_78 : decode cX8_spell 78 = .ok (.aload_n 0, 1) := by decide +kernel
theorem dX8_spell_79 : decode cX8_spell 79 = .ok (.bipush 32, 2) := by decide +kernel
theorem dX8_spell_81 : decode cX8_spell 81 = .ok (.invokevirtual 217, 3) := by decide +kernel
theorem dX8_spell_84 : decode cX8_spell 84 = .ok (.aload_n 0, 1) := by decide +kernel
theorem dX8_spell_85 : decode cX8_spell 85 = .ok (.aload_n 0, 1) := by decide +kernel
theorem dX8_spell_86 : decode cX8_spell 86 = .ok (.getfield 7, 3) := by decide +kernel
theorem dX8_spell_89 : decode cX8_spell 89 = .ok (.iload_n 2, 1) := by decide +kernel
theorem dX8_spell_90 : decode cX8_spell 90 = .ok (.iconst 2, 1) := by decide +kernel
theorem dX8_spell_91 : decode cX8_spell 91 = .ok (.iadd, 1) := by decide +kernel
theorem dX8_spell_92 : decode cX8_spell 92 = .ok (.iload 4, 2) := by decide +kernel
theorem dX8_spell_94 : decode cX8_spell 94 = .ok (.iadd, 1) := by decide +kernel
theorem dX8_spell_95 : decode cX8_spell 95 = .ok (.iaload, 1) := by decide +kernel
theorem dX8_spell_96 : decode cX8_spell 96 = .ok (.invokevirtual 220, 3) := by decide +kernel
theorem dX8_spell_99 : decode cX8_spell 99 = .ok (.iinc 4 1, 3) := by decide +kernel
theorem dX8_spell_102 : decode cX8_spell 102 = .ok (.goto (-33), 3) := by decide +kernel
theorem dX8_spell_105 : decode cX8_spell 105 = .ok (.aload_n 0, 1) := by decide +kernel
theorem dX8_spell_106 : decode cX8_spell 106 = .ok (.bipush 47, 2) := by decide +kernel
theorem dX8_spell_108 : decode cX8_spell 108 = .ok (.invokevirtual 217, 3) := by decide +kernel
theorem dX8_spell_111 : decode cX8_spell 111 = .ok (.return_, 1) := by decide +kernel
theorem dX8_logAt_0 : decode cX8_logAt 0 = .ok (.iload_n 1, 1) := by decide +kernel
theorem dX8_logAt_1 : decode cX8_logAt 1 = .ok (.ifCond .ge 6, 3) := by decide +kernel
theorem dX8_logAt_4 : decode cX8_logAt 4 = .ok (.bipush (-2), 2) := by decide +kernel
theorem dX8_logAt_6 : decode cX8_logAt 6 = .ok (.ireturn, 1) := by decide +kernel
theorem dX8_logAt_7 : decode cX8_logAt 7 = .ok (.iload_n 1, 1) := by decide +kernel
theorem dX8_logAt_8 : decode cX8_logAt 8 = .ok (.istore_n 2, 1) := by decide +kernel
theorem dX8_logAt_9 : decode cX8_logAt 9 = .ok (.iconst 0, 1) := by decide +kernel
theorem dX8_logAt_10 : decode cX8_logAt 10 = .ok (.istore_n 3, 1) := by decide +kernel
theorem dX8_logAt_11 : decode cX8_logAt 11 = .ok (.iload_n 3, 1) := by decide +kernel
theorem dX8_logAt_12 : decode cX8_logAt 12 = .ok (.aload_n 0, 1) := by decide +kernel
theorem dX8_logAt_13 : decode cX8_logAt 13 = .ok (.getfield 7, 3) := by decide +kernel
theorem dX8_logAt_16 : decode cX8_logAt 16 = .ok (.bipush 17, 2) := by decide +kernel
theorem dX8_logAt_18 : decode cX8_logAt 18 = .ok (.iaload, 1) := by decide +kernel
theorem dX8_logAt_19 : decode cX8_logAt 19 = .ok (.if_icmp .ge 36, 3) := by decide +kernel
theorem dX8_logAt_22 : decode cX8_logAt 22 = .ok (.aload_n 0, 1) := by decide +kernel
theorem dX8_logAt_23 : decode cX8_logAt 23 = .ok (.iload_n 3, 1) := by decide +kernel
theorem dX8_logAt_24 : decode cX8_logAt 24 = .ok (.invokevirtual 232, 3) := by decide +kernel
theorem dX8_logAt_27 : decode cX8_logAt 27 = .ok (.iload_n 2, 1) := by decide +kernel
theorem dX8_logAt_28 : decode cX8_logAt 28 = .ok (.aload_n 0, 1) := by decide +kernel
theorem dX8_logAt_29 : decode cX8_logAt 29 = .ok (.getfield 214, 3) := by decide +kernel
theorem dX8_logAt_32 : decode cX8_logAt 32 = .ok (.if_icmp .ge 10, 3) := by decide +kernel
theorem dX8_logAt_35 : decode cX8_logAt 35 = .ok (.aload_n 0, 1) := by decide +kernel
theorem dX8_logAt_36 : decode cX8_logAt 36 = .ok (.getfield 27, 3) := by decide +kernel
theorem dX8_logAt_39 : decode cX8_logAt 39 = .ok (.iload_n 2, 1) := by decide +kernel
theorem dX8_logAt_40 : decode cX8_logAt 40 = .ok (.iaload, 1) := by decide +kernel
theorem dX8_logAt_41 : decode cX8_logAt 41 = .ok (.ireturn, 1) := by decide +kernel
theorem dX8_logAt_42 : decode cX8_logAt 42 = .ok (.iload_n 2, 1) := by decide +kernel
theorem dX8_logAt_43 : decode cX8_logAt 43 = .ok (.aload_n 0, 1) := by decide +kernel
theorem dX8_logAt_44 : decode cX8_logAt 44 = .ok (.getfield 214, 3) := by decide +kernel
theorem dX8_logAt_47 : decode cX8_logAt 47 = .ok (.isub, 1) := by decide +kernel
theorem dX8_logAt_48 : decode cX8_logAt 48 = .ok (.istore_n 2, 1) := by decide +kernel
theorem dX8_logAt_49 : decode cX8_logAt 49 = .ok (.iinc 3 1, 3) := by decide +kernel
theorem dX8_logAt_52 : decode cX8_logAt 52 = .ok (.goto (-41), 3) := by decide +kernel
theorem dX8_logAt_55 : decode cX8_logAt 55 = .ok (.bipush (-5), 2) := by decide +kernel
theorem dX8_logAt_57 : decode cX8_logAt 57 = .ok (.ireturn, 1) := by decide +kernel
theorem dX8_logLength_0 : decode cX8_logLength 0 = .ok (.iconst 0, 1) := by decide +kernel
theorem dX8_logLength_1 : decode cX8_logLength 1 = .ok (.istore_n 1, 1) := by decide +kernel
theorem dX8_logLength_2 : decode cX8_logLength 2 = .ok (.iconst 0, 1) := by decide +kernel
theorem dX8_logLength_3 : decode cX8_logLength 3 = .ok (.istore_n 2, 1) := by decide +kernel
theorem dX8_logLength_4 : decode cX8_logLength 4 = .ok (.iload_n 2, 1) := by decide +kernel
theorem dX8_logLength_5 : decode cX8_logLength 5 = .ok (.aload_n 0, 1) := by decide +kernel
theorem dX8_logLength_6 : decode cX8_logLength 6 = .ok (.getfield 7, 3) := by decide +kernel
theorem dX8_logLength_9 : decode cX8_logLength 9 = .ok (.bipush 17, 2) := by decide +kernel
theorem dX8_logLength_11 : decode cX8_logLength 11 = .ok (.iaload, 1) := by decide +kernel
theorem dX8_logLength_12 : decode cX8_logLength 12 = .ok (.if_icmp .ge 21, 3) := by decide +kernel
theorem dX8_logLength_15 : decode cX8_logLength 15 = .ok (.aload_n 0, 1) := by decide +kernel
theorem dX8_logLength_16 : decode cX8_logLength 16 = .ok (.iload_n 2, 1) := by decide +kernel
theorem dX8_logLength_17 : decode cX8_logLength 17 = .ok (.invokevirtual 232, 3) := by decide +kernel
theorem dX8_logLength_20 : decode cX8_logLength 20 = .ok (.iload_n 1, 1) := by decide +kernel
theorem dX8_logLength_21 : decode cX8_logLength 21 = .ok (.aload_n 0, 1) := by decide +kernel
theorem dX8_logLength_22 : decode cX8_logLength 22 = .ok (.getfield 214, 3) := by decide +kernel
theorem dX8_logLength_25 : decode cX8_logLength 25 = .ok (.iadd, 1) := by decide +kernel
theorem dX8_logLength_26 : decode cX8_logLength 26 = .ok (.istore_n 1, 1) := by decide +kernel
theorem dX8_logLength_27 : decode cX8_logLength 27 = .ok (.iinc 2 1, 3) := by decide +kernel
theorem dX8_logLength_30 : decode cX8_logLength 30 = .ok (.goto (-26), 3) := by decide +kernel
theorem dX8_logLength_33 : decode cX8_logLength 33 = .ok (.iload_n 1, 1) := by decide +kernel
theorem dX8_logLength_34 : decode cX8_logLength 34 = .ok (.ireturn, 1) := by decide +kernel
theorem dX8_behind_0 : decode cX8_behind 0 = .ok (.iconst 0, 1) := by decide +kernel
theorem dX8_behind_1 : decode cX8_behind 1 = .ok (.istore_n 1, 1) := by decide +kernel
theorem dX8_behind_2 : decode cX8_behind 2 = .ok (.iconst 0, 1) := by decide +kernel
theorem dX8_behind_3 : decode cX8_behind 3 = .ok (.istore_n 2, 1) := by decide +kernel
theorem dX8_behind_4 : decode cX8_behind 4 = .ok (.iload_n 2, 1) := by decide +kernel
theorem dX8_behind_5 : decode cX8_behind 5 = .ok (.aload_n 0, 1) := by decide +kernel
theorem dX8_behind_6 : decode cX8_behind 6 = .ok (.getfield 7, 3) := by decide +kernel
theorem dX8_behind_9 : decode cX8_behind 9 = .ok (.iconst 3, 1) := by decide +kernel
theorem dX8_behind_10 : decode cX8_behind 10 = .ok (.iaload, 1) := by decide +kernel
theorem dX8_behind_11 : decode cX8_behind 11 = .ok (.if_icmp .ge 37, 3) := by decide +kernel
theorem dX8_behind_14 : decode cX8_behind 14 = .ok (.iload_n 1, 1) := by decide +kernel
theorem dX8_behind_15 : decode cX8_behind 15 = .ok (.aload_n 0, 1) := by decide +kernel
theorem dX8_behind_16 : decode cX8_behind 16 = .ok (.getfield 7, 3) := by decide +kernel
theorem dX8_behind_19 : decode cX8_behind 19 = .ok (.sipush 184, 3) := by decide +kernel
theorem dX8_behind_22 : decode cX8_behind 22 = .ok (.iload_n 2, 1) := by decide +kernel
theorem dX8_behind_23 : decode cX8_behind 23 = .ok (.iadd, 1) := by decide +kernel
theorem dX8_behind_24 : decode cX8_behind 24 = .ok (.iaload, 1) := by decide +kernel
theorem dX8_behind_25 : decode cX8_behind 25 = .ok (.aload_n 0, 1) := by decide +kernel
theorem dX8_behind_26 : decode cX8_behind 26 = .ok (.getfield 7, 3) := by decide +kernel
theorem dX8_behind_29 : decode cX8_behind 29 = .ok (.bipush 9, 2) := by decide +kernel
theorem dX8_behind_31 : decode cX8_behind 31 = .ok (.iaload, 1) := by decide +kernel
theorem dX8_behind_32 : decode cX8_behind 32 = .ok (.if_icmp .ge 7, 3) := by decide +kernel
theorem dX8_behind_35 : decode cX8_behind 35 = .ok (.iconst 1, 1) := by decide +kernel
theorem dX8_behind_36 : decode cX8_behind 36 = .ok (.goto 4, 3) := by decide +kernel
theorem dX8_behind_39 : decode cX8_behind 39 = .ok (.iconst 0, 1) := by decide +kernel
theorem dX8_behind_40 : decode cX8_behind 40 = .ok (.iadd, 1) := by decide +kernel
theorem dX8_behind_41 : decode cX8_behind 41 = .ok (.istore_n 1, 1) := by decide +kernel
theorem dX8_behind_42 : decode cX8_behind 42 = .ok (.iinc 2 1, 3) := by decide +kernel
theorem dX8_behind_45 : decode cX8_behind 45 = .ok (.goto (-41), 3) := by decide +kernel
theorem dX8_behind_48 : decode cX8_behind 48 = .ok (.iload_n 1, 1) := by decide +kernel
theorem dX8_behind_49 : decode cX8_behind 49 = .ok (.ireturn, 1) := by decide +kernel
theorem dX8_wins_0 : decode cX8_wins 0 = .ok (.iconst 0, 1) := by decide +kernel
theorem dX8_wins_1 : decode cX8_wins 1 = .ok (.istore_n 1, 1) := by decide +kernel
theorem dX8_wins_2 : decode cX8_wins 2 = .ok (.iconst 0, 1) := by decide +kernel
theorem dX8_wins_3 : decode cX8_wins 3 = .ok (.istore_n 2, 1) := by decide +kernel
theorem dX8_wins_4 : decode cX8_wins 4 = .ok (.iload_n 2, 1) := by decide +kernel
theorem dX8_wins_5 : decode cX8_wins 5 = .ok (.aload_n 0, 1) := by decide +kernel
theorem dX8_wins_6 : decode cX8_wins 6 = .ok (.getfield 7, 3) := by decide +kernel
theorem dX8_wins_9 : decode cX8_wins 9 = .ok (.iconst 4, 1) := by decide +kernel
theorem dX8_wins_10 : decode cX8_wins 10 = .ok (.iaload, 1) := by decide +kernel
theorem dX8_wins_11 : decode cX8_wins 11 = .ok (.if_icmp .ge 27, 3) := by decide +kernel
theorem dX8_wins_14 : decode cX8_wins 14 = .ok (.iload_n 1, 1) := by decide +kernel
theorem dX8_wins_15 : decode cX8_wins 15 = .ok (.aload_n 0, 1) := by decide +kernel
theorem dX8_wins_16 : decode cX8_wins 16 = .ok (.getfield 7, 3) := by decide +kernel
theorem dX8_wins_19 : decode cX8_wins 19 = .ok (.sipush 192, 3) := by decide +kernel
theorem dX8_wins_22 : decode cX8_wins 22 = .ok (.bipush 7, 2) := by decide +kernel
theorem dX8_wins_24 : decode cX8_wins 24 = .ok (.iload_n 2, 1) := by decide +kernel
theorem dX8_wins_25 : decode cX8_wins 25 = .ok (.imul, 1) := by decide +kernel
theorem dX8_wins_26 : decode cX8_wins 26 = .ok (.iadd, 1) := by decide +kernel
theorem dX8_wins_27 : decode cX8_wins 27 = .ok (.iconst 4, 1) := by decide +kernel
theorem dX8_wins_28 : decode cX8_wins 28 = .ok (.iadd, 1) := by decide +kernel
theorem dX8_wins_29 : decode cX8_wins 29 = .ok (.iaload, 1) := by decide +kernel
theorem dX8_wins_30 : decode cX8_wins 30 = .ok (.iadd, 1) := by decide +kernel
theorem dX8_wins_31 : decode cX8_wins 31 = .ok (.istore_n 1, 1) := by decide +kernel
theorem dX8_wins_32 : decode cX8_wins 32 = .ok (.iinc 2 1, 3) := by decide +kernel
theorem dX8_wins_35 : decode cX8_wins 35 = .ok (.goto (-31), 3) := by decide +kernel
theorem dX8_wins_38 : decode cX8_wins 38 = .ok (.iload_n 1, 1) := by decide +kernel
theorem dX8_wins_39 : decode cX8_wins 39 = .ok (.ireturn, 1) := by decide +kernel
theorem dX8_count_0 : decode cX8_count 0 = .ok (.iload_n 1, 1) := by decide +kernel
theorem dX8_count_1 : decode cX8_count 1 = .ok (.tableswitch 191 0 14 #[75, 82, 89, 96, 103, 108, 116, 124, 131, 136, 157, 162, 167, 175, 183], 75) := by decide +kernel
theorem dX8_count_76 : decode cX8_count 76 = .ok (.aload_n 0, 1) := by decide +kernel
theorem dX8_count_77 : decode cX8_count 77 = .ok (.getfield 7, 3) := by decide +kernel
theorem dX8_count_80 : decode cX8_count 80 = .ok (.iconst 0, 1) := by decide +kernel
theorem dX8_count_81 : decode cX8_count 81 = .ok (.iaload, 1) := by decide +kernel
theorem dX8_count_82 : decode cX8_count 82 = .ok (.ireturn, 1) := by decide +kernel
theorem dX8_count_83 : decode cX8_count 83 = .ok (.aload_n 0, 1) := by decide +kernel
theorem dX8_count_84 : decode cX8_count 84 = .ok (.getfield 7, 3) := by decide +kernel
theorem dX8_count_87 : decode cX8_count 87 = .ok (.iconst 1, 1) := by decide +kernel
theorem dX8_count_88 : decode cX8_count 88 = .ok (.iaload, 1) := by decide +kernel
theorem dX8_count_89 : decode cX8_count 89 = .ok (.ireturn, 1) := by decide +kernel
theorem dX8_count_90 : decode cX8_count 90 = .ok (.aload_n 0, 1) := by decide +kernel
theorem dX8_count_91 : decode cX8_count 91 = .ok (.getfield 7, 3) := by decide +kernel
theorem dX8_count_94 : decode cX8_count 94 = .ok (.iconst 2, 1) := by decide +kernel
theorem dX8_count_95 : decode cX8_count 95 = .ok (.iaload, 1) := by decide +kernel
theorem dX8_count_96 : decode cX8_count 96 = .ok (.ireturn, 1) := by decide +kernel
theorem dX8_count_97 : decode cX8_count 97 = .ok (.aload_n 0, 1) := by decide +kernel
theorem dX8_count_98 : decode cX8_count 98 = .ok (.getfield 7, 3) := by decide +kernel
theorem dX8_count_101 : decode cX8_count 101 = .ok (.iconst 3, 1) := by decide +kernel
theorem dX8_count_102 : decode cX8_count 102 = .ok (.iaload, 1) := by decide +kernel
theorem dX8_count_103 : decode cX8_count 103 = .ok (.ireturn, 1) := by decide +kernel
theorem dX8_count_104 : decode cX8_count 104 = .ok (.aload_n 0, 1) := by decide +kernel
theorem dX8_count_105 : decode cX8_count 105 = .ok (.invokevirtual 235, 3) := by decide +kernel
theorem dX8_count_108 : decode cX8_count 108 = .ok (.ireturn, 1) := by decide +kernel
theorem dX8_count_109 : decode cX8_count 109 = .ok (.aload_n 0, 1) := by decide +kernel
theorem dX8_count_110 : decode cX8_count 110 = .ok (.getfield 7, 3) := by decide +kernel
theorem dX8_count_113 : decode cX8_count 113 = .ok (.bipush 9, 2) := by decide +kernel
theorem dX8_count_115 : decode cX8_count 115 = .ok (.iaload, 1) := by decide +kernel
theorem dX8_count_116 : decode cX8_count 116 = .ok (.ireturn, 1) := by decide +kernel
theorem dX8_count_117 : decode cX8_count 117 = .ok (.aload_n 0, 1) := by decide +kernel
theorem dX8_count_118 : decode cX8_count 118 = .ok (.getfield 7, 3) := by decide +kernel
theorem dX8_count_121 : decode cX8_count 121 = .ok (.bipush 8, 2) := by decide +kernel
theorem dX8_count_123 : decode cX8_count 123 = .ok (.iaload, 1) := by decide +kernel
theorem dX8_count_124 : decode cX8_count 124 = .ok (.ireturn, 1) := by decide +kernel
theorem dX8_count_125 : decode cX8_count 125 = .ok (.aload_n 0, 1) := by decide +kernel
theorem dX8_count_126 : decode cX8_count 126 = .ok (.getfield 7, 3) := by decide +kernel
theorem dX8_count_129 : decode cX8_count 129 = .ok (.iconst 4, 1) := by decide +kernel
theorem dX8_count_130 : decode cX8_count 130 = .ok (.iaload, 1) := by decide +kernel
theorem dX8_count_131 : decode cX8_count 131 = .ok (.ireturn, 1) := by decide +kernel
theorem dX8_count_132 : decode cX8_count 132 = .ok (.aload_n 0, 1) := by decide +kernel
theorem dX8_count_133 : decode cX8_count 133 = .ok (.invokevirtual 238, 3) := by decide +kernel
theorem dX8_count_136 : decode cX8_count 136 = .ok (.ireturn, 1) := by decide +kernel
theorem dX8_count_137 : decode cX8_count 137 = .ok (.aload_n 0, 1) := by decide +kernel
theorem dX8_count_138 : decode cX8_count 138 = .ok (.getfield 7, 3) := by decide +kernel
theorem dX8_count_141 : decode cX8_count 141 = .ok (.iconst 5, 1) := by decide +kernel
theorem dX8_count_142 : decode cX8_count 142 = .ok (.iaload, 1) := by decide +kernel
theorem dX8_count_143 : decode cX8_count 143 = .ok (.ifCond .ne 8, 3) := by decide +kernel
theorem dX8_count_146 : decode cX8_count 146 = .ok (.bipush (-5), 2) := by decide +kernel
theorem dX8_count_148 : decode cX8_count 148 = .ok (.goto 9, 3) := by decide +kernel
theorem dX8_count_151 : decode cX8_count 151 = .ok (.aload_n 0, 1) := by decide +kernel
theorem dX8_count_152 : decode cX8_count 152 = .ok (.getfield 7, 3) := by decide +kernel
theorem dX8_count_155 : decode cX8_count 155 = .ok (.iconst 5, 1) := by decide +kernel
theorem dX8_count_156 : decode cX8_count 156 = .ok (.iaload, 1) := by decide +kernel
theorem dX8_count_157 : decode cX8_count 157 = .ok (.ireturn, 1) := by decide +kernel
theorem dX8_count_158 : decode cX8_count 158 = .ok (.aload_n 0, 1) := by decide +kernel
theorem dX8_count_159 : decode cX8_count 159 = .ok (.invokevirtual 241, 3) := by decide +kernel
theorem dX8_count_162 : decode cX8_count 162 = .ok (.ireturn, 1) := by decide +kernel
theorem dX8_count_163 : decode cX8_count 163 = .ok (.aload_n 0, 1) := by decide +kernel
theorem dX8_count_164 : decode cX8_count 164 = .ok (.getfield 54, 3) := by decide +kernel
theorem dX8_count_167 : decode cX8_count 167 = .ok (.ireturn, 1) := by decide +kernel
theorem dX8_count_168 : decode cX8_count 168 = .ok (.aload_n 0, 1) := by decide +kernel
theorem dX8_count_169 : decode cX8_count 169 = .ok (.getfield 7, 3) := by decide +kernel
theorem dX8_count_172 : decode cX8_count 172 = .ok (.bipush 6, 2) := by decide +kernel
theorem dX8_count_174 : decode cX8_count 174 = .ok (.iaload, 1) := by decide +kernel
theorem dX8_count_175 : decode cX8_count 175 = .ok (.ireturn, 1) := by decide +kernel
theorem dX8_count_176 : decode cX8_count 176 = .ok (.aload_n 0, 1) := by decide +kernel
theorem dX8_count_177 : decode cX8_count 177 = .ok (.getfield 7, 3) := by decide +kernel
theorem dX8_count_180 : decode cX8_count 180 = .ok (.bipush 7, 2) := by decide +kernel
theorem dX8_count_182 : decode cX8_count 182 = .ok (.iaload, 1) := by decide +kernel
theorem dX8_count_183 : decode cX8_count 183 = .ok (.ireturn, 1) := by decide +kernel
theorem dX8_count_184 : decode cX8_count 184 = .ok (.aload_n 0, 1) := by decide +kernel
theorem dX8_count_185 : decode cX8_count 185 = .ok (.getfield 7, 3) := by decide +kernel
theorem dX8_count_188 : decode cX8_count 188 = .ok (.bipush 10, 2) := by decide +kernel
theorem dX8_count_190 : decode cX8_count 190 = .ok (.iaload, 1) := by decide +kernel
theorem dX8_count_191 : decode cX8_count 191 = .ok (.ireturn, 1) := by decide +kernel
theorem dX8_count_192 : decode cX8_count 192 = .ok (.bipush (-2), 2) := by decide +kernel
theorem dX8_count_194 : decode cX8_count 194 = .ok (.ireturn, 1) := by decide +kernel
end
section
theorem dL_law_0 : decode cL_law 0 = .ok (.new 7, 3) := by decide +kernel
theorem dL_law_3 : decode cL_law 3 = .ok (.dup, 1) := by decide +kernel
theorem dL_law_4 : decode cL_law 4 = .ok (.invokespecial 9, 3) := by decide +kernel
theorem dL_law_7 : decode cL_law 7 = .ok (.astore_n 1, 1) := by decide +kernel
theorem dL_law_8 : decode cL_law 8 = .ok (.new 10, 3) := by decide +kernel
theorem dL_law_11 : decode cL_law 11 = .ok (.dup, 1) := by decide +kernel
theorem dL_law_12 : decode cL_law 12 = .ok (.invokespecial 12, 3) := by decide +kernel
theorem dL_law_15 : decode cL_law 15 = .ok (.astore_n 2, 1) := by decide +kernel
theorem dL_law_16 : decode cL_law 16 = .ok (.iconst 0, 1) := by decide +kernel
theorem dL_law_17 : decode cL_law 17 = .ok (.istore_n 3, 1) := by decide +kernel
theorem dL_law_18 : decode cL_law 18 = .ok (.iload_n 3, 1) := by decide +kernel
theorem dL_law_19 : decode cL_law 19 = .ok (.aload_n 0, 1) := by decide +kernel
theorem dL_law_20 : decode cL_law 20 = .ok (.arraylength, 1) := by decide +kernel
theorem dL_law_21 : decode cL_law 21 = .ok (.iconst 4, 1) := by decide +kernel
theorem dL_law_22 : decode cL_law 22 = .ok (.isub, 1) := by decide +kernel
theorem dL_law_23 : decode cL_law 23 = .ok (.if_icmp .gt 1045, 3) := by decide +kernel
theorem dL_law_26 : decode cL_law 26 = .ok (.aload_n 0, 1) := by decide +kernel
theorem dL_law_27 : decode cL_law 27 = .ok (.iload_n 3, 1) := by decide +kernel
theorem dL_law_28 : decode cL_law 28 = .ok (.iaload, 1) := by decide +kernel
theorem dL_law_29 : decode cL_law 29 = .ok (.bipush 63, 2) := by decide +kernel
theorem dL_law_31 : decode cL_law 31 = .ok (.iand, 1) := by decide +kernel
theorem dL_law_32 : decode cL_law 32 = .ok (.tableswitch 1030 0 35 #[160, 185, 198, 211, 234, 277, 300, 333, 356, 389, 412, 425, 448, 481, 514, 537, 560, 573, 586, 609, 632, 655, 678, 691, 714, 737, 770, 803, 836, 859, 892, 925, 938, 961, 984, 1007], 160) := by decide +kernel
theorem dL_law_192 : decode cL_law 192 = .ok (.aload_n 1, 1) := by decide +kernel
theorem dL_law_193 : decode cL_law 193 = .ok (.aload_n 0, 1) := by decide +kernel
theorem dL_law_194 : decode cL_law 194 = .ok (.iload_n 3, 1) := by decide +kernel
theorem dL_law_195 : decode cL_law 195 = .ok (.iconst 1, 1) := by decide +kernel
theorem dL_law_196 : decode cL_law 196 = .ok (.iadd, 1) := by decide +kernel
theorem dL_law_197 : decode cL_law 197 = .ok (.iaload, 1) := by decide +kernel
theorem dL_law_198 : decode cL_law 198 = .ok (.i2c, 1) := by decide +kernel
theorem dL_law_199 : decode cL_law 199 = .ok (.invokevirtual 13, 3) := by decide +kernel
theorem dL_law_202 : decode cL_law 202 = .ok (.aload_n 2, 1) := by decide +kernel
theorem dL_law_203 : decode cL_law 203 = .ok (.aload_n 0, 1) := by decide +kernel
theorem dL_law_204 : decode cL_law 204 = .ok (.iload_n 3, 1) := by decide +kernel
theorem dL_law_205 : decode cL_law 205 = .ok (.iconst 1, 1) := by decide +kernel
theorem dL_law_206 : decode cL_law 206 = .ok (.iadd, 1) := by decide +kernel
theorem dL_law_207 : decode cL_law 207 = .ok (.iaload, 1) := by decide +kernel
theorem dL_law_208 : decode cL_law 208 = .ok (.i2c, 1) := by decide +kernel
theorem dL_law_209 : decode cL_law 209 = .ok (.invokevirtual 17, 3) := by decide +kernel
theorem dL_law_212 : decode cL_law 212 = .ok (.if_icmp .eq 850, 3) := by decide +kernel
theorem dL_law_215 : decode cL_law 215 = .ok (.iconst 0, 1) := by decide +kernel
theorem dL_law_216 : decode cL_law 216 = .ok (.ireturn, 1) := by decide +kernel
theorem dL_law_217 : decode cL_law 217 = .ok (.aload_n 1, 1) := by decide +kernel
theorem dL_law_218 : decode cL_law 218 = .ok (.invokevirtual 18, 3) := by decide +kernel
theorem dL_law_221 : decode cL_law 221 = .ok (.aload_n 2, 1) := by decide +kernel
theorem dL_law_222 : decode cL_law 222 = .ok (.invokevirtual 22, 3) := by decide +kernel
theorem dL_law_225 : decode cL_law 225 = .ok (.if_icmp .eq 837, 3) := by decide +kernel
theorem dL_law_228 : decode cL_law 228 = .ok (.iconst 0, 1) := by decide +kernel
theorem dL_law_229 : decode cL_law 229 = .ok (.ireturn, 1) := by decide +kernel
theorem dL_law_230 : decode cL_law 230 = .ok (.aload_n 1, 1) := by decide +kernel
theorem dL_law_231 : decode cL_law 231 = .ok (.invokevirtual 23, 3) := by decide +kernel
theorem dL_law_234 : decode cL_law 234 = .ok (.aload_n 2, 1) := by decide +kernel
theorem dL_law_235 : decode cL_law 235 = .ok (.invokevirtual 26, 3) := by decide +kernel
theorem dL_law_238 : decode cL_law 238 = .ok (.if_icmp .eq 824, 3) := by decide +kernel
theorem dL_law_241 : decode cL_law 241 = .ok (.iconst 0, 1) := by decide +kernel
theorem dL_law_242 : decode cL_law 242 = .ok (.ireturn, 1) := by decide +kernel
theorem dL_law_243 : decode cL_law 243 = .ok (.aload_n 1, 1) := by decide +kernel
theorem dL_law_244 : decode cL_law 244 = .ok (.aload_n 0, 1) := by decide +kernel
theorem dL_law_245 : decode cL_law 245 = .ok (.iload_n 3, 1) := by decide +kernel
theorem dL_law_246 : decode cL_law 246 = .ok (.iconst 1, 1) := by decide +kernel
theorem dL_law_247 : decode cL_law 247 = .ok (.iadd, 1) := by decide +kernel
theorem dL_law_248 : decode cL_law 248 = .ok (.iaload, 1) := by decide +kernel
theorem dL_law_249 : decode cL_law 249 = .ok (.invokevirtual 27, 3) := by decide +kernel
theorem dL_law_252 : decode cL_law 252 = .ok (.aload_n 2, 1) := by decide +kernel
theorem dL_law_253 : decode cL_law 253 = .ok (.aload_n 0, 1) := by decide +kernel
theorem dL_law_254 : decode cL_law 254 = .ok (.iload_n 3, 1) := by decide +kernel
theorem dL_law_255 : decode cL_law 255 = .ok (.iconst 1, 1) := by decide +kernel
theorem dL_law_256 : decode cL_law 256 = .ok (.iadd, 1) := by decide +kernel
theorem dL_law_257 : decode cL_law 257 = .ok (.iaload, 1) := by decide +kernel
theorem dL_law_258 : decode cL_law 258 = .ok (.invokevirtual 31, 3) := by decide +kernel
theorem dL_law_261 : decode cL_law 261 = .ok (.if_icmp .eq 801, 3) := by decide +kernel
theorem dL_law_264 : decode cL_law 264 = .ok (.iconst 0, 1) := by decide +kernel
theorem dL_law_265 : decode cL_law 265 = .ok (.ireturn, 1) := by decide +kernel
theorem dL_law_266 : decode cL_law 266 = .ok (.aload_n 1, 1) := by decide +kernel
theorem dL_law_267 : decode cL_law 267 = .ok (.aload_n 0, 1) := by decide +kernel
theorem dL_law_268 : decode cL_law 268 = .ok (.iload_n 3, 1) := by decide +kernel
theorem dL_law_269 : decode cL_law 269 = .ok (.iconst 1, 1) := by decide +kernel
theorem dL_law_270 : decode cL_law 270 = .ok (.iadd, 1) := by decide +kernel
theorem dL_law_271 : decode cL_law 271 = .ok (.iaload, 1) := by decide +kernel
theorem dL_law_272 : decode cL_law 272 = .ok (.aload_n 0, 1) := by decide +kernel
theorem dL_law_273 : decode cL_law 273 = .ok (.iload_n 3, 1) := by decide +kernel
theorem dL_law_274 : decode cL_law 274 = .ok (.iconst 2, 1) := by decide +kernel
theorem dL_law_275 : decode cL_law 275 = .ok (.iadd, 1) := by decide +kernel
theorem dL_law_276 : decode cL_law 276 = .ok (.iaload, 1) := by decide +kernel
theorem dL_law_277 : decode cL_law 277 = .ok (.aload_n 0, 1) := by decide +kernel
theorem dL_law_278 : decode cL_law 278 = .ok (.iload_n 3, 1) := by decide +kernel
theorem dL_law_279 : decode cL_law 279 = .ok (.iconst 3, 1) := by decide +kernel
theorem dL_law_280 : decode cL_law 280 = .ok (.iadd, 1) := by decide +kernel
theorem dL_law_281 : decode cL_law 281 = .ok (.iaload, 1) := by decide +kernel
theorem dL_law_282 : decode cL_law 282 = .ok (.invokevirtual 32, 3) := by decide +kernel
theorem dL_law_285 : decode cL_law 285 = .ok (.aload_n 2, 1) := by decide +kernel
theorem dL_law_286 : decode cL_law 286 = .ok (.aload_n 0, 1) := by decide +kernel
theorem dL_law_287 : decode cL_law 287 = .ok (.iload_n 3, 1) := by decide +kernel
theorem dL_law_288 : decode cL_law 288 = .ok (.iconst 1, 1) := by decide +kernel
theorem dL_law_289 : decode cL_law 289 = .ok (.iadd, 1) := by decide +kernel
theorem dL_law_290 : decode cL_law 290 = .ok (.iaload, 1) := by decide +kernel
theorem dL_law_291 : decode cL_law 291 = .ok (.aload_n 0, 1) := by decide +kernel
theorem dL_law_292 : decode cL_law 292 = .ok (.iload_n 3, 1) := by decide +kernel
theorem dL_law_293 : decode cL_law 293 = .ok (.iconst 2, 1) := by decide +kernel
theorem dL_law_294 : decode cL_law 294 = .ok (.iadd, 1) := by decide +kernel
theorem dL_law_295 : decode cL_law 295 = .ok (.iaload, 1) := by decide +kernel
theorem dL_law_296 : decode cL_law 296 = .ok (.aload_n 0, 1) := by decide +kernel
theorem dL_law_297 : decode cL_law 297 = .ok (.iload_n 3, 1) := by decide +kernel
theorem dL_law_298 : decode cL_law 298 = .ok (.iconst 3, 1) := by decide +kernel
theorem dL_law_299 : decode cL_law 299 = .ok (.iadd, 1) := by decide +kernel
theorem dL_law_300 : decode cL_law 300 = .ok (.iaload, 1) := by decide +kernel
theorem dL_law_301 : decode cL_law 301 = .ok (.invokevirtual 36, 3) := by decide +kernel
theorem dL_law_304 : decode cL_law 304 = .ok (.if_icmp .eq 758, 3) := by decide +kernel
theorem dL_law_307 : decode cL_law 307 = .ok (.iconst 0, 1) := by decide +kernel
theorem dL_law_308 : decode cL_law 308 = .ok (.ireturn, 1) := by decide +kernel
theorem dL_law_309 : decode cL_law 309 = .ok (.aload_n 1, 1) := by decide +kernel
theorem dL_law_310 : decode cL_law 310 = .ok (.aload_n 0, 1) := by decide +kernel
theorem dL_law_311 : decode cL_law 311 = .ok (.iload_n 3, 1) := by decide +kernel
theorem dL_law_312 : decode cL_law 312 = .ok (.iconst 1, 1) := by decide +kernel
theorem dL_law_313 : decode cL_law 313 = .ok (.iadd, 1) := by decide +kernel
theorem dL_law_314 : decode cL_law 314 = .ok (.iaload, 1) := by decide +kernel
theorem dL_law_315 : decode cL_law 315 = .ok (.invokevirtual 37, 3) := by decide +kernel
theorem dL_law_318 : decode cL_law 318 = .ok (.aload_n 2, 1) := by decide +kernel
theorem dL_law_319 : decode cL_law 319 = .ok (.aload_n 0, 1) := by decide +kernel
theorem dL_law_320 : decode cL_law 320 = .ok (.iload_n 3, 1) := by decide +kernel
theorem dL_law_321 : decode cL_law 321 = .ok (.iconst 1, 1) := by decide +kernel
theorem dL_law_322 : decode cL_law 322 = .ok (.iadd, 1) := by decide +kernel
theorem dL_law_323 : decode cL_law 323 = .ok (.iaload, 1) := by decide +kernel
theorem dL_law_324 : decode cL_law 324 = .ok (.invokevirtual 40, 3) := by decide +kernel
theorem dL_law_327 : decode cL_law 327 = .ok (.if_icmp .eq 735, 3) := by decide +kernel
theorem dL_law_330 : decode cL_law 330 = .ok (.iconst 0, 1) := by decide +kernel
theorem dL_law_331 : decode cL_law 331 = .ok (.ireturn, 1) := by decide +kernel
theorem dL_law_332 : decode cL_law 332 = .ok (.aload_n 1, 1) := by decide +kernel
theorem dL_law_333 : decode cL_law 333 = .ok (.aload_n 0, 1) := by decide +kernel
theorem dL_law_334 : decode cL_law 334 = .ok (.iload_n 3, 1) := by decide +kernel
theorem dL_law_335 : decode cL_law 335 = .ok (.iconst 1, 1) := by decide +kernel
theorem dL_law_336 : decode cL_law 336 = .ok (.iadd, 1) := by decide +kernel
theorem dL_law_337 : decode cL_law 337 = .ok (.iaload, 1) := by decide +kernel
theorem dL_law_338 : decode cL_law 338 = .ok (.aload_n 0, 1) := by decide +kernel
theorem dL_law_339 : decode cL_law 339 = .ok (.iload_n 3, 1) := by decide +kernel
theorem dL_law_340 : decode cL_law 340 = .ok (.iconst 2, 1) := by decide +kernel
theorem dL_law_341 : decode cL_law 341 = .ok (.iadd, 1) := by decide +kernel
theorem dL_law_342 : decode cL_law 342 = .ok (.iaload, 1) := by decide +kernel
theorem dL_law_343 : decode cL_law 343 = .ok (.invokevirtual 41, 3) := by decide +kernel
theorem dL_law_346 : decode cL_law 346 = .ok (.aload_n 2, 1) := by decide +kernel
theorem dL_law_347 : decode cL_law 347 = .ok (.aload_n 0, 1) := by decide +kernel
theorem dL_law_348 : decode cL_law 348 = .ok (.iload_n 3, 1) := by decide +kernel
theorem dL_law_349 : decode cL_law 349 = .ok (.iconst 1, 1) := by decide +kernel
theorem dL_law_350 : decode cL_law 350 = .ok (.iadd, 1) := by decide +kernel
theorem dL_law_351 : decode cL_law 351 = .ok (.iaload, 1) := by decide +kernel
theorem dL_law_352 : decode cL_law 352 = .ok (.aload_n 0, 1) := by decide +kernel
theorem dL_law_353 : decode cL_law 353 = .ok (.iload_n 3, 1) := by decide +kernel
theorem dL_law_354 : decode cL_law 354 = .ok (.iconst 2, 1) := by decide +kernel
theorem dL_law_355 : decode cL_law 355 = .ok (.iadd, 1) := by decide +kernel
theorem dL_law_356 : decode cL_law 356 = .ok (.iaload, 1) := by decide +kernel
theorem dL_law_357 : decode cL_law 357 = .ok (.invokevirtual 45, 3) := by decide +kernel
theorem dL_law_360 : decode cL_law 360 = .ok (.if_icmp .eq 702, 3) := by decide +kernel
theorem dL_law_363 : decode cL_law 363 = .ok (.iconst 0, 1) := by decide +kernel
theorem dL_law_364 : decode cL_law 364 = .ok (.ireturn, 1) := by decide +kernel
theorem dL_law_365 : decode cL_law 365 = .ok (.aload_n 1, 1) := by decide +kernel
theorem dL_law_366 : decode cL_law 366 = .ok (.aload_n 0, 1) := by decide +kernel
theorem dL_law_367 : decode cL_law 367 = .ok (.iload_n 3, 1) := by decide +kernel
theorem dL_law_368 : decode cL_law 368 = .ok (.iconst 1, 1) := by decide +kernel
theorem dL_law_369 : decode cL_law 369 = .ok (.iadd, 1) := by decide +kernel
theorem dL_law_370 : decode cL_law 370 = .ok (.iaload, 1) := by decide +kernel
theorem dL_law_371 : decode cL_law 371 = .ok (.invokevirtual 46, 3) := by decide +kernel
theorem dL_law_374 : decode cL_law 374 = .ok (.aload_n 2, 1) := by decide +kernel
theorem dL_law_375 : decode cL_law 375 = .ok (.aload_n 0, 1) := by decide +kernel
theorem dL_law_376 : decode cL_law 376 = .ok (.iload_n 3, 1) := by decide +kernel
theorem dL_law_377 : decode cL_law 377 = .ok (.iconst 1, 1) := by decide +kernel
theorem dL_law_378 : decode cL_law 378 = .ok (.iadd, 1) := by decide +kernel
theorem dL_law_379 : decode cL_law 379 = .ok (.iaload, 1) := by decide +kernel
theorem dL_law_380 : decode cL_law 380 = .ok (.invokevirtual 49, 3) := by decide +kernel
theorem dL_law_383 : decode cL_law 383 = .ok (.if_icmp .eq 679, 3) := by decide +kernel
theorem dL_law_386 : decode cL_law 386 = .ok (.iconst 0, 1) := by decide +kernel
theorem dL_law_387 : decode cL_law 387 = .ok (.ireturn, 1) := by decide +kernel
theorem dL_law_388 : decode cL_law 388 = .ok (.aload_n 1, 1) := by decide +kernel
theorem dL_law_389 : decode cL_law 389 = .ok (.aload_n 0, 1) := by decide +kernel
theorem dL_law_390 : decode cL_law 390 = .ok (.iload_n 3, 1) := by decide +kernel
theorem dL_law_391 : decode cL_law 391 = .ok (.iconst 1, 1) := by decide +kernel
theorem dL_law_392 : decode cL_law 392 = .ok (.iadd, 1) := by decide +kernel
theorem dL_law_393 : decode cL_law 393 = .ok (.iaload, 1) := by decide +kernel
theorem dL_law_394 : decode cL_law 394 = .ok (.aload_n 0, 1) := by decide +kernel
theorem dL_law_395 : decode cL_law 395 = .ok (.iload_n 3, 1) := by decide +kernel
theorem dL_law_396 : decode cL_law 396 = .ok (.iconst 2, 1) := by decide +kernel
theorem dL_law_397 : decode cL_law 397 = .ok (.iadd, 1) := by decide +kernel
theorem dL_law_398 : decode cL_law 398 = .ok (.iaload, 1) := by decide +kernel
theorem dL_law_399 : decode cL_law 399 = .ok (.invokevirtual 50, 3) := by decide +kernel
theorem dL_law_402 : decode cL_law 402 = .ok (.aload_n 2, 1) := by decide +kernel
theorem dL_law_403 : decode cL_law 403 = .ok (.aload_n 0, 1) := by decide +kernel
theorem dL_law_404 : decode cL_law 404 = .ok (.iload_n 3, 1) := by decide +kernel
theorem dL_law_405 : decode cL_law 405 = .ok (.iconst 1, 1) := by decide +kernel
theorem dL_law_406 : decode cL_law 406 = .ok (.iadd, 1) := by decide +kernel
theorem dL_law_407 : decode cL_law 407 = .ok (.iaload, 1) := by decide +kernel
theorem dL_law_408 : decode cL_law 408 = .ok (.aload_n 0, 1) := by decide +kernel
theorem dL_law_409 : decode cL_law 409 = .ok (.iload_n 3, 1) := by decide +kernel
theorem dL_law_410 : decode cL_law 410 = .ok (.iconst 2, 1) := by decide +kernel
theorem dL_law_411 : decode cL_law 411 = .ok (.iadd, 1) := by decide +kernel
theorem dL_law_412 : decode cL_law 412 = .ok (.iaload, 1) := by decide +kernel
theorem dL_law_413 : decode cL_law 413 = .ok (.invokevirtual 53, 3) := by decide +kernel
theorem dL_law_416 : decode cL_law 416 = .ok (.if_icmp .eq 646, 3) := by decide +kernel
theorem dL_law_419 : decode cL_law 419 = .ok (.iconst 0, 1) := by decide +kernel
theorem dL_law_420 : decode cL_law 420 = .ok (.ireturn, 1) := by decide +kernel
theorem dL_law_421 : decode cL_law 421 = .ok (.aload_n 1, 1) := by decide +kernel
theorem dL_law_422 : decode cL_law 422 = .ok (.aload_n 0, 1) := by decide +kernel
theorem dL_law_423 : decode cL_law 423 = .ok (.iload_n 3, 1) := by decide +kernel
theorem dL_law_424 : decode cL_law 424 = .ok (.iconst 1, 1) := by decide +kernel
theorem dL_law_425 : decode cL_law 425 = .ok (.iadd, 1) := by decide +kernel
theorem dL_law_426 : decode cL_law 426 = .ok (.iaload, 1) := by decide +kernel
theorem dL_law_427 : decode cL_law 427 = .ok (.invokevirtual 54, 3) := by decide +kernel
theorem dL_law_430 : decode cL_law 430 = .ok (.aload_n 2, 1) := by decide +kernel
theorem dL_law_431 : decode cL_law 431 = .ok (.aload_n 0, 1) := by decide +kernel
theorem dL_law_432 : decode cL_law 432 = .ok (.iload_n 3, 1) := by decide +kernel
theorem dL_law_433 : decode cL_law 433 = .ok (.iconst 1, 1) := by decide +kernel
theorem dL_law_434 : decode cL_law 434 = .ok (.iadd, 1) := by decide +kernel
theorem dL_law_435 : decode cL_law 435 = .ok (.iaload, 1) := by decide +kernel
theorem dL_law_436 : decode cL_law 436 = .ok (.invokevirtual 57, 3) := by decide +kernel
theorem dL_law_439 : decode cL_law 439 = .ok (.if_icmp .eq 623, 3) := by decide +kernel
theorem dL_law_442 : decode cL_law 442 = .ok (.iconst 0, 1) := by decide +kernel
theorem dL_law_443 : decode cL_law 443 = .ok (.ireturn, 1) := by decide +kernel
theorem dL_law_444 : decode cL_law 444 = .ok (.aload_n 1, 1) := by decide +kernel
theorem dL_law_445 : decode cL_law 445 = .ok (.invokevirtual 58, 3) := by decide +kernel
theorem dL_law_448 : decode cL_law 448 = .ok (.aload_n 2, 1) := by decide +kernel
theorem dL_law_449 : decode cL_law 449 = .ok (.invokevirtual 61, 3) := by decide +kernel
theorem dL_law_452 : decode cL_law 452 = .ok (.if_icmp .eq 610, 3) := by decide +kernel
theorem dL_law_455 : decode cL_law 455 = .ok (.iconst 0, 1) := by decide +kernel
theorem dL_law_456 : decode cL_law 456 = .ok (.ireturn, 1) := by decide +kernel
theorem dL_law_457 : decode cL_law 457 = .ok (.aload_n 1, 1) := by decide +kernel
theorem dL_law_458 : decode cL_law 458 = .ok (.aload_n 0, 1) := by decide +kernel
theorem dL_law_459 : decode cL_law 459 = .ok (.iload_n 3, 1) := by decide +kernel
theorem dL_law_460 : decode cL_law 460 = .ok (.iconst 1, 1) := by decide +kernel
theorem dL_law_461 : decode cL_law 461 = .ok (.iadd, 1) := by decide +kernel
theorem dL_law_462 : decode cL_law 462 = .ok (.iaload, 1) := by decide +kernel
theorem dL_law_463 : decode cL_law 463 = .ok (.invokevirtual 62, 3) := by decide +kernel
theorem dL_law_466 : decode cL_law 466 = .ok (.aload_n 2, 1) := by decide +kernel
theorem dL_law_467 : decode cL_law 467 = .ok (.aload_n 0, 1) := by decide +kernel
theorem dL_law_468 : decode cL_law 468 = .ok (.iload_n 3, 1) := by decide +kernel
theorem dL_law_469 : decode cL_law 469 = .ok (.iconst 1, 1) := by decide +kernel
theorem dL_law_470 : decode cL_law 470 = .ok (.iadd, 1) := by decide +kernel
theorem dL_law_471 : decode cL_law 471 = .ok (.iaload, 1) := by decide +kernel
theorem dL_law_472 : decode cL_law 472 = .ok (.invokevirtual 65, 3) := by decide +kernel
theorem dL_law_475 : decode cL_law 475 = .ok (.if_icmp .eq 587, 3) := by decide +kernel
theorem dL_law_478 : decode cL_law 478 = .ok (.iconst 0, 1) := by decide +kernel
theorem dL_law_479 : decode cL_law 479 = .ok (.ireturn, 1) := by decide +kernel
theorem dL_law_480 : decode cL_law 480 = .ok (.aload_n 1, 1) := by decide +kernel
theorem dL_law_481 : decode cL_law 481 = .ok (.aload_n 0, 1) := by decide +kernel
theorem dL_law_482 : decode cL_law 482 = .ok (.iload_n 3, 1) := by decide +kernel
theorem dL_law_483 : decode cL_law 483 = .ok (.iconst 1, 1) := by decide +kernel
theorem dL_law_484 : decode cL_law 484 = .ok (.iadd, 1) := by decide +kernel
theorem dL_law_485 : decode cL_law 485 = .ok (.iaload, 1) := by decide +kernel
theorem dL_law_486 : decode cL_law 486 = .ok (.aload_n 0, 1) := by decide +kernel
theorem dL_law_487 : decode cL_law 487 = .ok (.iload_n 3, 1) := by decide +kernel
theorem dL_law_488 : decode cL_law 488 = .ok (.iconst 2, 1) := by decide +kernel
theorem dL_law_489 : decode cL_law 489 = .ok (.iadd, 1) := by decide +kernel
theorem dL_law_490 : decode cL_law 490 = .ok (.iaload, 1) := by decide +kernel
theorem dL_law_491 : decode cL_law 491 = .ok (.invokevirtual 66, 3) := by decide +kernel
theorem dL_law_494 : decode cL_law 494 = .ok (.aload_n 2, 1) := by decide +kernel
theorem dL_law_495 : decode cL_law 495 = .ok (.aload_n 0, 1) := by decide +kernel
theorem dL_law_496 : decode cL_law 496 = .ok (.iload_n 3, 1) := by decide +kernel
theorem dL_law_497 : decode cL_law 497 = .ok (.iconst 1, 1) := by decide +kernel
theorem dL_law_498 : decode cL_law 498 = .ok (.iadd, 1) := by decide +kernel
theorem dL_law_499 : decode cL_law 499 = .ok (.iaload, 1) := by decide +kernel
theorem dL_law_500 : decode cL_law 500 = .ok (.aload_n 0, 1) := by decide +kernel
theorem dL_law_501 : decode cL_law 501 = .ok (.iload_n 3, 1) := by decide +kernel
theorem dL_law_502 : decode cL_law 502 = .ok (.iconst 2, 1) := by decide +kernel
theorem dL_law_503 : decode cL_law 503 = .ok (.iadd, 1) := by decide +kernel
theorem dL_law_504 : decode cL_law 504 = .ok (.iaload, 1) := by decide +kernel
theorem dL_law_505 : decode cL_law 505 = .ok (.invokevirtual 69, 3) := by decide +kernel
theorem dL_law_508 : decode cL_law 508 = .ok (.if_icmp .eq 554, 3) := by decide +kernel
theorem dL_law_511 : decode cL_law 511 = .ok (.iconst 0, 1) := by decide +kernel
theorem dL_law_512 : decode cL_law 512 = .ok (.ireturn, 1) := by decide +kernel
theorem dL_law_513 : decode cL_law 513 = .ok (.aload_n 1, 1) := by decide +kernel
theorem dL_law_514 : decode cL_law 514 = .ok (.aload_n 0, 1) := by decide +kernel
theorem dL_law_515 : decode cL_law 515 = .ok (.iload_n 3, 1) := by decide +kernel
theorem dL_law_516 : decode cL_law 516 = .ok (.iconst 1, 1) := by decide +kernel
theorem dL_law_517 : decode cL_law 517 = .ok (.iadd, 1) := by decide +kernel
theorem dL_law_518 : decode cL_law 518 = .ok (.iaload, 1) := by decide +kernel
theorem dL_law_519 : decode cL_law 519 = .ok (.aload_n 0, 1) := by decide +kernel
theorem dL_law_520 : decode cL_law 520 = .ok (.iload_n 3, 1) := by decide +kernel
theorem dL_law_521 : decode cL_law 521 = .ok (.iconst 2, 1) := by decide +kernel
theorem dL_law_522 : decode cL_law 522 = .ok (.iadd, 1) := by decide +kernel
theorem dL_law_523 : decode cL_law 523 = .ok (.iaload, 1) := by decide +kernel
theorem dL_law_524 : decode cL_law 524 = .ok (.invokevirtual 70, 3) := by decide +kernel
theorem dL_law_527 : decode cL_law 527 = .ok (.aload_n 2, 1) := by decide +kernel
theorem dL_law_528 : decode cL_law 528 = .ok (.aload_n 0, 1) := by decide +kernel
theorem dL_law_529 : decode cL_law 529 = .ok (.iload_n 3, 1) := by decide +kernel
theorem dL_law_530 : decode cL_law 530 = .ok (.iconst 1, 1) := by decide +kernel
theorem dL_law_531 : decode cL_law 531 = .ok (.iadd, 1) := by decide +kernel
theorem dL_law_532 : decode cL_law 532 = .ok (.iaload, 1) := by decide +kernel
theorem dL_law_533 : decode cL_law 533 = .ok (.aload_n 0, 1) := by decide +kernel
theorem dL_law_534 : decode cL_law 534 = .ok (.iload_n 3, 1) := by decide +kernel
theorem dL_law_535 : decode cL_law 535 = .ok (.iconst 2, 1) := by decide +kernel
theorem dL_law_536 : decode cL_law 536 = .ok (.iadd, 1) := by decide +kernel
theorem dL_law_537 : decode cL_law 537 = .ok (.iaload, 1) := by decide +kernel
theorem dL_law_538 : decode cL_law 538 = .ok (.invokevirtual 73, 3) := by decide +kernel
theorem dL_law_541 : decode cL_law 541 = .ok (.if_icmp .eq 521, 3) := by decide +kernel
theorem dL_law_544 : decode cL_law 544 = .ok (.iconst 0, 1) := by decide +kernel
theorem dL_law_545 : decode cL_law 545 = .ok (.ireturn, 1) := by decide +kernel
theorem dL_law_546 : decode cL_law 546 = .ok (.aload_n 1, 1) := by decide +kernel
theorem dL_law_547 : decode cL_law 547 = .ok (.aload_n 0, 1) := by decide +kernel
theorem dL_law_548 : decode cL_law 548 = .ok (.iload_n 3, 1) := by decide +kernel
theorem dL_law_549 : decode cL_law 549 = .ok (.iconst 1, 1) := by decide +kernel
theorem dL_law_550 : decode cL_law 550 = .ok (.iadd, 1) := by decide +kernel
theorem dL_law_551 : decode cL_law 551 = .ok (.iaload, 1) := by decide +kernel
theorem dL_law_552 : decode cL_law 552 = .ok (.invokevirtual 74, 3) := by decide +kernel
theorem dL_law_555 : decode cL_law 555 = .ok (.aload_n 2, 1) := by decide +kernel
theorem dL_law_556 : decode cL_law 556 = .ok (.aload_n 0, 1) := by decide +kernel
theorem dL_law_557 : decode cL_law 557 = .ok (.iload_n 3, 1) := by decide +kernel
theorem dL_law_558 : decode cL_law 558 = .ok (.iconst 1, 1) := by decide +kernel
theorem dL_law_559 : decode cL_law 559 = .ok (.iadd, 1) := by decide +kernel
theorem dL_law_560 : decode cL_law 560 = .ok (.iaload, 1) := by decide +kernel
theorem dL_law_561 : decode cL_law 561 = .ok (.invokevirtual 77, 3) := by decide +kernel
theorem dL_law_564 : decode cL_law 564 = .ok (.if_icmp .eq 498, 3) := by decide +kernel
theorem dL_law_567 : decode cL_law 567 = .ok (.iconst 0, 1) := by decide +kernel
theorem dL_law_568 : decode cL_law 568 = .ok (.ireturn, 1) := by decide +kernel
theorem dL_law_569 : decode cL_law 569 = .ok (.aload_n 1, 1) := by decide +kernel
theorem dL_law_570 : decode cL_law 570 = .ok (.aload_n 0, 1) := by decide +kernel
theorem dL_law_571 : decode cL_law 571 = .ok (.iload_n 3, 1) := by decide +kernel
theorem dL_law_572 : decode cL_law 572 = .ok (.iconst 1, 1) := by decide +kernel
theorem dL_law_573 : decode cL_law 573 = .ok (.iadd, 1) := by decide +kernel
theorem dL_law_574 : decode cL_law 574 = .ok (.iaload, 1) := by decide +kernel
theorem dL_law_575 : decode cL_law 575 = .ok (.invokevirtual 78, 3) := by decide +kernel
theorem dL_law_578 : decode cL_law 578 = .ok (.aload_n 2, 1) := by decide +kernel
theorem dL_law_579 : decode cL_law 579 = .ok (.aload_n 0, 1) := by decide +kernel
theorem dL_law_580 : decode cL_law 580 = .ok (.iload_n 3, 1) := by decide +kernel
theorem dL_law_581 : decode cL_law 581 = .ok (.iconst 1, 1) := by decide +kernel
theorem dL_law_582 : decode cL_law 582 = .ok (.iadd, 1) := by decide +kernel
theorem dL_law_583 : decode cL_law 583 = .ok (.iaload, 1) := by decide +kernel
theorem dL_law_584 : decode cL_law 584 = .ok (.invokevirtual 81, 3) := by decide +kernel
theorem dL_law_587 : decode cL_law 587 = .ok (.if_icmp .eq 475, 3) := by decide +kernel
theorem dL_law_590 : decode cL_law 590 = .ok (.iconst 0, 1) := by decide +kernel
theorem dL_law_591 : decode cL_law 591 = .ok (.ireturn, 1) := by decide +kernel
theorem dL_law_592 : decode cL_law 592 = .ok (.aload_n 1, 1) := by decide +kernel
theorem dL_law_593 : decode cL_law 593 = .ok (.invokevirtual 82, 3) := by decide +kernel
theorem dL_law_596 : decode cL_law 596 = .ok (.aload_n 2, 1) := by decide +kernel
theorem dL_law_597 : decode cL_law 597 = .ok (.invokevirtual 85, 3) := by decide +kernel
theorem dL_law_600 : decode cL_law 600 = .ok (.if_icmp .eq 462, 3) := by decide +kernel
theorem dL_law_603 : decode cL_law 603 = .ok (.iconst 0, 1) := by decide +kernel
theorem dL_law_604 : decode cL_law 604 = .ok (.ireturn, 1) := by decide +kernel
theorem dL_law_605 : decode cL_law 605 = .ok (.aload_n 1, 1) := by decide +kernel
theorem dL_law_606 : decode cL_law 606 = .ok (.invokevirtual 86, 3) := by decide +kernel
theorem dL_law_609 : decode cL_law 609 = .ok (.aload_n 2, 1) := by decide +kernel
theorem dL_law_610 : decode cL_law 610 = .ok (.invokevirtual 89, 3) := by decide +kernel
theorem dL_law_613 : decode cL_law 613 = .ok (.if_icmp .eq 449, 3) := by decide +kernel
theorem dL_law_616 : decode cL_law 616 = .ok (.iconst 0, 1) := by decide +kernel
theorem dL_law_617 : decode cL_law 617 = .ok (.ireturn, 1) := by decide +kernel
theorem dL_law_618 : decode cL_law 618 = .ok (.aload_n 1, 1) := by decide +kernel
theorem dL_law_619 : decode cL_law 619 = .ok (.aload_n 0, 1) := by decide +kernel
theorem dL_law_620 : decode cL_law 620 = .ok (.iload_n 3, 1) := by decide +kernel
theorem dL_law_621 : decode cL_law 621 = .ok (.iconst 1, 1) := by decide +kernel
theorem dL_law_622 : decode cL_law 622 = .ok (.iadd, 1) := by decide +kernel
theorem dL_law_623 : decode cL_law 623 = .ok (.iaload, 1) := by decide +kernel
theorem dL_law_624 : decode cL_law 624 = .ok (.invokevirtual 90, 3) := by decide +kernel
theorem dL_law_627 : decode cL_law 627 = .ok (.aload_n 2, 1) := by decide +kernel
theorem dL_law_628 : decode cL_law 628 = .ok (.aload_n 0, 1) := by decide +kernel
theorem dL_law_629 : decode cL_law 629 = .ok (.iload_n 3, 1) := by decide +kernel
theorem dL_law_630 : decode cL_law 630 = .ok (.iconst 1, 1) := by decide +kernel
theorem dL_law_631 : decode cL_law 631 = .ok (.iadd, 1) := by decide +kernel
theorem dL_law_632 : decode cL_law 632 = .ok (.iaload, 1) := by decide +kernel
theorem dL_law_633 : decode cL_law 633 = .ok (.invokevirtual 93, 3) := by decide +kernel
theorem dL_law_636 : decode cL_law 636 = .ok (.if_icmp .eq 426, 3) := by decide +kernel
theorem dL_law_639 : decode cL_law 639 = .ok (.iconst 0, 1) := by decide +kernel
theorem dL_law_640 : decode cL_law 640 = .ok (.ireturn, 1) := by decide +kernel
theorem dL_law_641 : decode cL_law 641 = .ok (.aload_n 1, 1) := by decide +kernel
theorem dL_law_642 : decode cL_law 642 = .ok (.aload_n 0, 1) := by decide +kernel
theorem dL_law_643 : decode cL_law 643 = .ok (.iload_n 3, 1) := by decide +kernel
theorem dL_law_644 : decode cL_law 644 = .ok (.iconst 1, 1) := by decide +kernel
theorem dL_law_645 : decode cL_law 645 = .ok (.iadd, 1) := by decide +kernel
theorem dL_law_646 : decode cL_law 646 = .ok (.iaload, 1) := by decide +kernel
theorem dL_law_647 : decode cL_law 647 = .ok (.invokevirtual 94, 3) := by decide +kernel
theorem dL_law_650 : decode cL_law 650 = .ok (.aload_n 2, 1) := by decide +kernel
theorem dL_law_651 : decode cL_law 651 = .ok (.aload_n 0, 1) := by decide +kernel
theorem dL_law_652 : decode cL_law 652 = .ok (.iload_n 3, 1) := by decide +kernel
theorem dL_law_653 : decode cL_law 653 = .ok (.iconst 1, 1) := by decide +kernel
theorem dL_law_654 : decode cL_law 654 = .ok (.iadd, 1) := by decide +kernel
theorem dL_law_655 : decode cL_law 655 = .ok (.iaload, 1) := by decide +kernel
theorem dL_law_656 : decode cL_law 656 = .ok (.invokevirtual 97, 3) := by decide +kernel
theorem dL_law_659 : decode cL_law 659 = .ok (.if_icmp .eq 403, 3) := by decide +kernel
theorem dL_law_662 : decode cL_law 662 = .ok (.iconst 0, 1) := by decide +kernel
theorem dL_law_663 : decode cL_law 663 = .ok (.ireturn, 1) := by decide +kernel
theorem dL_law_664 : decode cL_law 664 = .ok (.aload_n 1, 1) := by decide +kernel
theorem dL_law_665 : decode cL_law 665 = .ok (.aload_n 0, 1) := by decide +kernel
theorem dL_law_666 : decode cL_law 666 = .ok (.iload_n 3, 1) := by decide +kernel
theorem dL_law_667 : decode cL_law 667 = .ok (.iconst 1, 1) := by decide +kernel
theorem dL_law_668 : decode cL_law 668 = .ok (.iadd, 1) := by decide +kernel
theorem dL_law_669 : decode cL_law 669 = .ok (.iaload, 1) := by decide +kernel
theorem dL_law_670 : decode cL_law 670 = .ok (.invokevirtual 98, 3) := by decide +kernel
theorem dL_law_673 : decode cL_law 673 = .ok (.aload_n 2, 1) := by decide +kernel
theorem dL_law_674 : decode cL_law 674 = .ok (.aload_n 0, 1) := by decide +kernel
theorem dL_law_675 : decode cL_law 675 = .ok (.iload_n 3, 1) := by decide +kernel
theorem dL_law_676 : decode cL_law 676 = .ok (.iconst 1, 1) := by decide +kernel
theorem dL_law_677 : decode cL_law 677 = .ok (.iadd, 1) := by decide +kernel
theorem dL_law_678 : decode cL_law 678 = .ok (.iaload, 1) := by decide +kernel
theorem dL_law_679 : decode cL_law 679 = .ok (.invokevirtual 101, 3) := by decide +kernel
theorem dL_law_682 : decode cL_law 682 = .ok (.if_icmp .eq 380, 3) := by decide +kernel
theorem dL_law_685 : decode cL_law 685 = .ok (.iconst 0, 1) := by decide +kernel
theorem dL_law_686 : decode cL_law 686 = .ok (.ireturn, 1) := by decide +kernel
theorem dL_law_687 : decode cL_law 687 = .ok (.aload_n 1, 1) := by decide +kernel
theorem dL_law_688 : decode cL_law 688 = .ok (.aload_n 0, 1) := by decide +kernel
theorem dL_law_689 : decode cL_law 689 = .ok (.iload_n 3, 1) := by decide +kernel
theorem dL_law_690 : decode cL_law 690 = .ok (.iconst 1, 1) := by decide +kernel
theorem dL_law_691 : decode cL_law 691 = .ok (.iadd, 1) := by decide +kernel
theorem dL_law_692 : decode cL_law 692 = .ok (.iaload, 1) := by decide +kernel
theorem dL_law_693 : decode cL_law 693 = .ok (.invokevirtual 102, 3) := by decide +kernel
theorem dL_law_696 : decode cL_law 696 = .ok (.aload_n 2, 1) := by decide +kernel
theorem dL_law_697 : decode cL_law 697 = .ok (.aload_n 0, 1) := by decide +kernel
theorem dL_law_698 : decode cL_law 698 = .ok (.iload_n 3, 1) := by decide +kernel
theorem dL_law_699 : decode cL_law 699 = .ok (.iconst 1, 1) := by decide +kernel
theorem dL_law_700 : decode cL_law 700 = .ok (.iadd, 1) := by decide +kernel
theorem dL_law_701 : decode cL_law 701 = .ok (.iaload, 1) := by decide +kernel
theorem dL_law_702 : decode cL_law 702 = .ok (.invokevirtual 105, 3) := by decide +kernel
theorem dL_law_705 : decode cL_law 705 = .ok (.if_icmp .eq 357, 3) := by decide +kernel
theorem dL_law_708 : decode cL_law 708 = .ok (.iconst 0, 1) := by decide +kernel
theorem dL_law_709 : decode cL_law 709 = .ok (.ireturn, 1) := by decide +kernel
theorem dL_law_710 : decode cL_law 710 = .ok (.aload_n 1, 1) := by decide +kernel
theorem dL_law_711 : decode cL_law 711 = .ok (.invokevirtual 106, 3) := by decide +kernel
theorem dL_law_714 : decode cL_law 714 = .ok (.aload_n 2, 1) := by decide +kernel
theorem dL_law_715 : decode cL_law 715 = .ok (.invokevirtual 109, 3) := by decide +kernel
theorem dL_law_718 : decode cL_law 718 = .ok (.if_icmp .eq 344, 3) := by decide +kernel
theorem dL_law_721 : decode cL_law 721 = .ok (.iconst 0, 1) := by decide +kernel
theorem dL_law_722 : decode cL_law 722 = .ok (.ireturn, 1) := by decide +kernel
theorem dL_law_723 : decode cL_law 723 = .ok (.aload_n 1, 1) := by decide +kernel
theorem dL_law_724 : decode cL_law 724 = .ok (.aload_n 0, 1) := by decide +kernel
theorem dL_law_725 : decode cL_law 725 = .ok (.iload_n 3, 1) := by decide +kernel
theorem dL_law_726 : decode cL_law 726 = .ok (.iconst 1, 1) := by decide +kernel
theorem dL_law_727 : decode cL_law 727 = .ok (.iadd, 1) := by decide +kernel
theorem dL_law_728 : decode cL_law 728 = .ok (.iaload, 1) := by decide +kernel
theorem dL_law_729 : decode cL_law 729 = .ok (.invokevirtual 110, 3) := by decide +kernel
theorem dL_law_732 : decode cL_law 732 = .ok (.aload_n 2, 1) := by decide +kernel
theorem dL_law_733 : decode cL_law 733 = .ok (.aload_n 0, 1) := by decide +kernel
theorem dL_law_734 : decode cL_law 734 = .ok (.iload_n 3, 1) := by decide +kernel
theorem dL_law_735 : decode cL_law 735 = .ok (.iconst 1, 1) := by decide +kernel
theorem dL_law_736 : decode cL_law 736 = .ok (.iadd, 1) := by decide +kernel
theorem dL_law_737 : decode cL_law 737 = .ok (.iaload, 1) := by decide +kernel
theorem dL_law_738 : decode cL_law 738 = .ok (.invokevirtual 113, 3) := by decide +kernel
theorem dL_law_741 : decode cL_law 741 = .ok (.if_icmp .eq 321, 3) := by decide +kernel
theorem dL_law_744 : decode cL_law 744 = .ok (.iconst 0, 1) := by decide +kernel
theorem dL_law_745 : decode cL_law 745 = .ok (.ireturn, 1) := by decide +kernel
theorem dL_law_746 : decode cL_law 746 = .ok (.aload_n 1, 1) := by decide +kernel
theorem dL_law_747 : decode cL_law 747 = .ok (.aload_n 0, 1) := by decide +kernel
theorem dL_law_748 : decode cL_law 748 = .ok (.iload_n 3, 1) := by decide +kernel
theorem dL_law_749 : decode cL_law 749 = .ok (.iconst 1, 1) := by decide +kernel
theorem dL_law_750 : decode cL_law 750 = .ok (.iadd, 1) := by decide +kernel
theorem dL_law_751 : decode cL_law 751 = .ok (.iaload, 1) := by decide +kernel
theorem dL_law_752 : decode cL_law 752 = .ok (.invokevirtual 114, 3) := by decide +kernel
theorem dL_law_755 : decode cL_law 755 = .ok (.aload_n 2, 1) := by decide +kernel
theorem dL_law_756 : decode cL_law 756 = .ok (.aload_n 0, 1) := by decide +kernel
theorem dL_law_757 : decode cL_law 757 = .ok (.iload_n 3, 1) := by decide +kernel
theorem dL_law_758 : decode cL_law 758 = .ok (.iconst 1, 1) := by decide +kernel
theorem dL_law_759 : decode cL_law 759 = .ok (.iadd, 1) := by decide +kernel
theorem dL_law_760 : decode cL_law 760 = .ok (.iaload, 1) := by decide +kernel
theorem dL_law_761 : decode cL_law 761 = .ok (.invokevirtual 117, 3) := by decide +kernel
theorem dL_law_764 : decode cL_law 764 = .ok (.if_icmp .eq 298, 3) := by decide +kernel
theorem dL_law_767 : decode cL_law 767 = .ok (.iconst 0, 1) := by decide +kernel
theorem dL_law_768 : decode cL_law 768 = .ok (.ireturn, 1) := by decide +kernel
theorem dL_law_769 : decode cL_law 769 = .ok (.aload_n 1, 1) := by decide +kernel
theorem dL_law_770 : decode cL_law 770 = .ok (.aload_n 0, 1) := by decide +kernel
theorem dL_law_771 : decode cL_law 771 = .ok (.iload_n 3, 1) := by decide +kernel
theorem dL_law_772 : decode cL_law 772 = .ok (.iconst 1, 1) := by decide +kernel
theorem dL_law_773 : decode cL_law 773 = .ok (.iadd, 1) := by decide +kernel
theorem dL_law_774 : decode cL_law 774 = .ok (.iaload, 1) := by decide +kernel
theorem dL_law_775 : decode cL_law 775 = .ok (.aload_n 0, 1) := by decide +kernel
theorem dL_law_776 : decode cL_law 776 = .ok (.iload_n 3, 1) := by decide +kernel
theorem dL_law_777 : decode cL_law 777 = .ok (.iconst 2, 1) := by decide +kernel
theorem dL_law_778 : decode cL_law 778 = .ok (.iadd, 1) := by decide +kernel
theorem dL_law_779 : decode cL_law 779 = .ok (.iaload, 1) := by decide +kernel
theorem dL_law_780 : decode cL_law 780 = .ok (.invokevirtual 118, 3) := by decide +kernel
theorem dL_law_783 : decode cL_law 783 = .ok (.aload_n 2, 1) := by decide +kernel
theorem dL_law_784 : decode cL_law 784 = .ok (.aload_n 0, 1) := by decide +kernel
theorem dL_law_785 : decode cL_law 785 = .ok (.iload_n 3, 1) := by decide +kernel
theorem dL_law_786 : decode cL_law 786 = .ok (.iconst 1, 1) := by decide +kernel
theorem dL_law_787 : decode cL_law 787 = .ok (.iadd, 1) := by decide +kernel
theorem dL_law_788 : decode cL_law 788 = .ok (.iaload, 1) := by decide +kernel
theorem dL_law_789 : decode cL_law 789 = .ok (.aload_n 0, 1) := by decide +kernel
theorem dL_law_790 : decode cL_law 790 = .ok (.iload_n 3, 1) := by decide +kernel
theorem dL_law_791 : decode cL_law 791 = .ok (.iconst 2, 1) := by decide +kernel
theorem dL_law_792 : decode cL_law 792 = .ok (.iadd, 1) := by decide +kernel
theorem dL_law_793 : decode cL_law 793 = .ok (.iaload, 1) := by decide +kernel
theorem dL_law_794 : decode cL_law 794 = .ok (.invokevirtual 121, 3) := by decide +kernel
theorem dL_law_797 : decode cL_law 797 = .ok (.if_icmp .eq 265, 3) := by decide +kernel
theorem dL_law_800 : decode cL_law 800 = .ok (.iconst 0, 1) := by decide +kernel
theorem dL_law_801 : decode cL_law 801 = .ok (.ireturn, 1) := by decide +kernel
theorem dL_law_802 : decode cL_law 802 = .ok (.aload_n 1, 1) := by decide +kernel
theorem dL_law_803 : decode cL_law 803 = .ok (.aload_n 0, 1) := by decide +kernel
theorem dL_law_804 : decode cL_law 804 = .ok (.iload_n 3, 1) := by decide +kernel
theorem dL_law_805 : decode cL_law 805 = .ok (.iconst 1, 1) := by decide +kernel
theorem dL_law_806 : decode cL_law 806 = .ok (.iadd, 1) := by decide +kernel
theorem dL_law_807 : decode cL_law 807 = .ok (.iaload, 1) := by decide +kernel
theorem dL_law_808 : decode cL_law 808 = .ok (.aload_n 0, 1) := by decide +kernel
theorem dL_law_809 : decode cL_law 809 = .ok (.iload_n 3, 1) := by decide +kernel
theorem dL_law_810 : decode cL_law 810 = .ok (.iconst 2, 1) := by decide +kernel
theorem dL_law_811 : decode cL_law 811 = .ok (.iadd, 1) := by decide +kernel
theorem dL_law_812 : decode cL_law 812 = .ok (.iaload, 1) := by decide +kernel
theorem dL_law_813 : decode cL_law 813 = .ok (.invokevirtual 122, 3) := by decide +kernel
theorem dL_law_816 : decode cL_law 816 = .ok (.aload_n 2, 1) := by decide +kernel
theorem dL_law_817 : decode cL_law 817 = .ok (.aload_n 0, 1) := by decide +kernel
theorem dL_law_818 : decode cL_law 818 = .ok (.iload_n 3, 1) := by decide +kernel
theorem dL_law_819 : decode cL_law 819 = .ok (.iconst 1, 1) := by decide +kernel
theorem dL_law_820 : decode cL_law 820 = .ok (.iadd, 1) := by decide +kernel
theorem dL_law_821 : decode cL_law 821 = .ok (.iaload, 1) := by decide +kernel
theorem dL_law_822 : decode cL_law 822 = .ok (.aload_n 0, 1) := by decide +kernel
theorem dL_law_823 : decode cL_law 823 = .ok (.iload_n 3, 1) := by decide +kernel
theorem dL_law_824 : decode cL_law 824 = .ok (.iconst 2, 1) := by decide +kernel
theorem dL_law_825 : decode cL_law 825 = .ok (.iadd, 1) := by decide +kernel
theorem dL_law_826 : decode cL_law 826 = .ok (.iaload, 1) := by decide +kernel
theorem dL_law_827 : decode cL_law 827 = .ok (.invokevirtual 125, 3) := by decide +kernel
theorem dL_law_830 : decode cL_law 830 = .ok (.if_icmp .eq 232, 3) := by decide +kernel
theorem dL_law_833 : decode cL_law 833 = .ok (.iconst 0, 1) := by decide +kernel
theorem dL_law_834 : decode cL_law 834 = .ok (.ireturn, 1) := by decide +kernel
theorem dL_law_835 : decode cL_law 835 = .ok (.aload_n 1, 1) := by decide +kernel
theorem dL_law_836 : decode cL_law 836 = .ok (.aload_n 0, 1) := by decide +kernel
theorem dL_law_837 : decode cL_law 837 = .ok (.iload_n 3, 1) := by decide +kernel
theorem dL_law_838 : decode cL_law 838 = .ok (.iconst 1, 1) := by decide +kernel
theorem dL_law_839 : decode cL_law 839 = .ok (.iadd, 1) := by decide +kernel
theorem dL_law_840 : decode cL_law 840 = .ok (.iaload, 1) := by decide +kernel
theorem dL_law_841 : decode cL_law 841 = .ok (.aload_n 0, 1) := by decide +kernel
theorem dL_law_842 : decode cL_law 842 = .ok (.iload_n 3, 1) := by decide +kernel
theorem dL_law_843 : decode cL_law 843 = .ok (.iconst 2, 1) := by decide +kernel
theorem dL_law_844 : decode cL_law 844 = .ok (.iadd, 1) := by decide +kernel
theorem dL_law_845 : decode cL_law 845 = .ok (.iaload, 1) := by decide +kernel
theorem dL_law_846 : decode cL_law 846 = .ok (.invokevirtual 126, 3) := by decide +kernel
theorem dL_law_849 : decode cL_law 849 = .ok (.aload_n 2, 1) := by decide +kernel
theorem dL_law_850 : decode cL_law 850 = .ok (.aload_n 0, 1) := by decide +kernel
theorem dL_law_851 : decode cL_law 851 = .ok (.iload_n 3, 1) := by decide +kernel
theorem dL_law_852 : decode cL_law 852 = .ok (.iconst 1, 1) := by decide +kernel
theorem dL_law_853 : decode cL_law 853 = .ok (.iadd, 1) := by decide +kernel
theorem dL_law_854 : decode cL_law 854 = .ok (.iaload, 1) := by decide +kernel
theorem dL_law_855 : decode cL_law 855 = .ok (.aload_n 0, 1) := by decide +kernel
theorem dL_law_856 : decode cL_law 856 = .ok (.iload_n 3, 1) := by decide +kernel
theorem dL_law_857 : decode cL_law 857 = .ok (.iconst 2, 1) := by decide +kernel
theorem dL_law_858 : decode cL_law 858 = .ok (.iadd, 1) := by decide +kernel
theorem dL_law_859 : decode cL_law 859 = .ok (.iaload, 1) := by decide +kernel
theorem dL_law_860 : decode cL_law 860 = .ok (.invokevirtual 129, 3) := by decide +kernel
theorem dL_law_863 : decode cL_law 863 = .ok (.if_icmp .eq 199, 3) := by decide +kernel
theorem dL_law_866 : decode cL_law 866 = .ok (.iconst 0, 1) := by decide +kernel
theorem dL_law_867 : decode cL_law 867 = .ok (.ireturn, 1) := by decide +kernel
theorem dL_law_868 : decode cL_law 868 = .ok (.aload_n 1, 1) := by decide +kernel
theorem dL_law_869 : decode cL_law 869 = .ok (.aload_n 0, 1) := by decide +kernel
theorem dL_law_870 : decode cL_law 870 = .ok (.iload_n 3, 1) := by decide +kernel
theorem dL_law_871 : decode cL_law 871 = .ok (.iconst 1, 1) := by decide +kernel
theorem dL_law_872 : decode cL_law 872 = .ok (.iadd, 1) := by decide +kernel
theorem dL_law_873 : decode cL_law 873 = .ok (.iaload, 1) := by decide +kernel
theorem dL_law_874 : decode cL_law 874 = .ok (.invokevirtual 130, 3) := by decide +kernel
theorem dL_law_877 : decode cL_law 877 = .ok (.aload_n 2, 1) := by decide +kernel
theorem dL_law_878 : decode cL_law 878 = .ok (.aload_n 0, 1) := by decide +kernel
theorem dL_law_879 : decode cL_law 879 = .ok (.iload_n 3, 1) := by decide +kernel
theorem dL_law_880 : decode cL_law 880 = .ok (.iconst 1, 1) := by decide +kernel
theorem dL_law_881 : decode cL_law 881 = .ok (.iadd, 1) := by decide +kernel
theorem dL_law_882 : decode cL_law 882 = .ok (.iaload, 1) := by decide +kernel
theorem dL_law_883 : decode cL_law 883 = .ok (.invokevirtual 133, 3) := by decide +kernel
theorem dL_law_886 : decode cL_law 886 = .ok (.if_icmp .eq 176, 3) := by decide +kernel
theorem dL_law_889 : decode cL_law 889 = .ok (.iconst 0, 1) := by decide +kernel
theorem dL_law_890 : decode cL_law 890 = .ok (.ireturn, 1) := by decide +kernel
theorem dL_law_891 : decode cL_law 891 = .ok (.aload_n 1, 1) := by decide +kernel
theorem dL_law_892 : decode cL_law 892 = .ok (.aload_n 0, 1) := by decide +kernel
theorem dL_law_893 : decode cL_law 893 = .ok (.iload_n 3, 1) := by decide +kernel
theorem dL_law_894 : decode cL_law 894 = .ok (.iconst 1, 1) := by decide +kernel
theorem dL_law_895 : decode cL_law 895 = .ok (.iadd, 1) := by decide +kernel
theorem dL_law_896 : decode cL_law 896 = .ok (.iaload, 1) := by decide +kernel
theorem dL_law_897 : decode cL_law 897 = .ok (.aload_n 0, 1) := by decide +kernel
theorem dL_law_898 : decode cL_law 898 = .ok (.iload_n 3, 1) := by decide +kernel
theorem dL_law_899 : decode cL_law 899 = .ok (.iconst 2, 1) := by decide +kernel
theorem dL_law_900 : decode cL_law 900 = .ok (.iadd, 1) := by decide +kernel
theorem dL_law_901 : decode cL_law 901 = .ok (.iaload, 1) := by decide +kernel
theorem dL_law_902 : decode cL_law 902 = .ok (.invokevirtual 134, 3) := by decide +kernel
theorem dL_law_905 : decode cL_law 905 = .ok (.aload_n 2, 1) := by decide +kernel
theorem dL_law_906 : decode cL_law 906 = .ok (.aload_n 0, 1) := by decide +kernel
theorem dL_law_907 : decode cL_law 907 = .ok (.iload_n 3, 1) := by decide +kernel
theorem dL_law_908 : decode cL_law 908 = .ok (.iconst 1, 1) := by decide +kernel
theorem dL_law_909 : decode cL_law 909 = .ok (.iadd, 1) := by decide +kernel
theorem dL_law_910 : decode cL_law 910 = .ok (.iaload, 1) := by decide +kernel
theorem dL_law_911 : decode cL_law 911 = .ok (.aload_n 0, 1) := by decide +kernel
theorem dL_law_912 : decode cL_law 912 = .ok (.iload_n 3, 1) := by decide +kernel
theorem dL_law_913 : decode cL_law 913 = .ok (.iconst 2, 1) := by decide +kernel
theorem dL_law_914 : decode cL_law 914 = .ok (.iadd, 1) := by decide +kernel
theorem dL_law_915 : decode cL_law 915 = .ok (.iaload, 1) := by decide +kernel
theorem dL_law_916 : decode cL_law 916 = .ok (.invokevirtual 137, 3) := by decide +kernel
theorem dL_law_919 : decode cL_law 919 = .ok (.if_icmp .eq 143, 3) := by decide +kernel
theorem dL_law_922 : decode cL_law 922 = .ok (.iconst 0, 1) := by decide +kernel
theorem dL_law_923 : decode cL_law 923 = .ok (.ireturn, 1) := by decide +kernel
theorem dL_law_924 : decode cL_law 924 = .ok (.aload_n 1, 1) := by decide +kernel
theorem dL_law_925 : decode cL_law 925 = .ok (.aload_n 0, 1) := by decide +kernel
theorem dL_law_926 : decode cL_law 926 = .ok (.iload_n 3, 1) := by decide +kernel
theorem dL_law_927 : decode cL_law 927 = .ok (.iconst 1, 1) := by decide +kernel
theorem dL_law_928 : decode cL_law 928 = .ok (.iadd, 1) := by decide +kernel
theorem dL_law_929 : decode cL_law 929 = .ok (.iaload, 1) := by decide +kernel
theorem dL_law_930 : decode cL_law 930 = .ok (.aload_n 0, 1) := by decide +kernel
theorem dL_law_931 : decode cL_law 931 = .ok (.iload_n 3, 1) := by decide +kernel
theorem dL_law_932 : decode cL_law 932 = .ok (.iconst 2, 1) := by decide +kernel
theorem dL_law_933 : decode cL_law 933 = .ok (.iadd, 1) := by decide +kernel
theorem dL_law_934 : decode cL_law 934 = .ok (.iaload, 1) := by decide +kernel
theorem dL_law_935 : decode cL_law 935 = .ok (.invokevirtual 138, 3) := by decide +kernel
theorem dL_law_938 : decode cL_law 938 = .ok (.aload_n 2, 1) := by decide +kernel
theorem dL_law_939 : decode cL_law 939 = .ok (.aload_n 0, 1) := by decide +kernel
theorem dL_law_940 : decode cL_law 940 = .ok (.iload_n 3, 1) := by decide +kernel
theorem dL_law_941 : decode cL_law 941 = .ok (.iconst 1, 1) := by decide +kernel
theorem dL_law_942 : decode cL_law 942 = .ok (.iadd, 1) := by decide +kernel
theorem dL_law_943 : decode cL_law 943 = .ok (.iaload, 1) := by decide +kernel
theorem dL_law_944 : decode cL_law 944 = .ok (.aload_n 0, 1) := by decide +kernel
theorem dL_law_945 : decode cL_law 945 = .ok (.iload_n 3, 1) := by decide +kernel
theorem dL_law_946 : decode cL_law 946 = .ok (.iconst 2, 1) := by decide +kernel
theorem dL_law_947 : decode cL_law 947 = .ok (.iadd, 1) := by decide +kernel
theorem dL_law_948 : decode cL_law 948 = .ok (.iaload, 1) := by decide +kernel
theorem dL_law_949 : decode cL_law 949 = .ok (.invokevirtual 141, 3) := by decide +kernel
theorem dL_law_952 : decode cL_law 952 = .ok (.if_icmp .eq 110, 3) := by decide +kernel
theorem dL_law_955 : decode cL_law 955 = .ok (.iconst 0, 1) := by decide +kernel
theorem dL_law_956 : decode cL_law 956 = .ok (.ireturn, 1) := by decide +kernel
theorem dL_law_957 : decode cL_law 957 = .ok (.aload_n 1, 1) := by decide +kernel
theorem dL_law_958 : decode cL_law 958 = .ok (.invokevirtual 142, 3) := by decide +kernel
theorem dL_law_961 : decode cL_law 961 = .ok (.aload_n 2, 1) := by decide +kernel
theorem dL_law_962 : decode cL_law 962 = .ok (.invokevirtual 145, 3) := by decide +kernel
theorem dL_law_965 : decode cL_law 965 = .ok (.if_icmp .eq 97, 3) := by decide +kernel
theorem dL_law_968 : decode cL_law 968 = .ok (.iconst 0, 1) := by decide +kernel
theorem dL_law_969 : decode cL_law 969 = .ok (.ireturn, 1) := by decide +kernel
theorem dL_law_970 : decode cL_law 970 = .ok (.aload_n 1, 1) := by decide +kernel
theorem dL_law_971 : decode cL_law 971 = .ok (.aload_n 0, 1) := by decide +kernel
theorem dL_law_972 : decode cL_law 972 = .ok (.iload_n 3, 1) := by decide +kernel
theorem dL_law_973 : decode cL_law 973 = .ok (.iconst 1, 1) := by decide +kernel
theorem dL_law_974 : decode cL_law 974 = .ok (.iadd, 1) := by decide +kernel
theorem dL_law_975 : decode cL_law 975 = .ok (.iaload, 1) := by decide +kernel
theorem dL_law_976 : decode cL_law 976 = .ok (.invokevirtual 146, 3) := by decide +kernel
theorem dL_law_979 : decode cL_law 979 = .ok (.aload_n 2, 1) := by decide +kernel
theorem dL_law_980 : decode cL_law 980 = .ok (.aload_n 0, 1) := by decide +kernel
theorem dL_law_981 : decode cL_law 981 = .ok (.iload_n 3, 1) := by decide +kernel
theorem dL_law_982 : decode cL_law 982 = .ok (.iconst 1, 1) := by decide +kernel
theorem dL_law_983 : decode cL_law 983 = .ok (.iadd, 1) := by decide +kernel
theorem dL_law_984 : decode cL_law 984 = .ok (.iaload, 1) := by decide +kernel
theorem dL_law_985 : decode cL_law 985 = .ok (.invokevirtual 149, 3) := by decide +kernel
theorem dL_law_988 : decode cL_law 988 = .ok (.if_icmp .eq 74, 3) := by decide +kernel
theorem dL_law_991 : decode cL_law 991 = .ok (.iconst 0, 1) := by decide +kernel
theorem dL_law_992 : decode cL_law 992 = .ok (.ireturn, 1) := by decide +kernel
theorem dL_law_993 : decode cL_law 993 = .ok (.aload_n 1, 1) := by decide +kernel
theorem dL_law_994 : decode cL_law 994 = .ok (.aload_n 0, 1) := by decide +kernel
theorem dL_law_995 : decode cL_law 995 = .ok (.iload_n 3, 1) := by decide +kernel
theorem dL_law_996 : decode cL_law 996 = .ok (.iconst 1, 1) := by decide +kernel
theorem dL_law_997 : decode cL_law 997 = .ok (.iadd, 1) := by decide +kernel
theorem dL_law_998 : decode cL_law 998 = .ok (.iaload, 1) := by decide +kernel
theorem dL_law_999 : decode cL_law 999 = .ok (.invokevirtual 150, 3) := by decide +kernel
theorem dL_law_1002 : decode cL_law 1002 = .ok (.aload_n 2, 1) := by decide +kernel
theorem dL_law_1003 : decode cL_law 1003 = .ok (.aload_n 0, 1) := by decide +kernel
theorem dL_law_1004 : decode cL_law 1004 = .ok (.iload_n 3, 1) := by decide +kernel
theorem dL_law_1005 : decode cL_law 1005 = .ok (.iconst 1, 1) := by decide +kernel
theorem dL_law_1006 : decode cL_law 1006 = .ok (.iadd, 1) := by decide +kernel
theorem dL_law_1007 : decode cL_law 1007 = .ok (.iaload, 1) := by decide +kernel
theorem dL_law_1008 : decode cL_law 1008 = .ok (.invokevirtual 153, 3) := by decide +kernel
theorem dL_law_1011 : decode cL_law 1011 = .ok (.if_icmp .eq 51, 3) := by decide +kernel
theorem dL_law_1014 : decode cL_law 1014 = .ok (.iconst 0, 1) := by decide +kernel
theorem dL_law_1015 : decode cL_law 1015 = .ok (.ireturn, 1) := by decide +kernel
theorem dL_law_1016 : decode cL_law 1016 = .ok (.aload_n 1, 1) := by decide +kernel
theorem dL_law_1017 : decode cL_law 1017 = .ok (.aload_n 0, 1) := by decide +kernel
theorem dL_law_1018 : decode cL_law 1018 = .ok (.iload_n 3, 1) := by decide +kernel
theorem dL_law_1019 : decode cL_law 1019 = .ok (.iconst 1, 1) := by decide +kernel
theorem dL_law_1020 : decode cL_law 1020 = .ok (.iadd, 1) := by decide +kernel
theorem dL_law_1021 : decode cL_law 1021 = .ok (.iaload, 1) := by decide +kernel
theorem dL_law_1022 : decode cL_law 1022 = .ok (.invokevirtual 154, 3) := by decide +kernel
theorem dL_law_1025 : decode cL_law 1025 = .ok (.aload_n 2, 1) := by decide +kernel
theorem dL_law_1026 : decode cL_law 1026 = .ok (.aload_n 0, 1) := by decide +kernel
theorem dL_law_1027 : decode cL_law 1027 = .ok (.iload_n 3, 1) := by decide +kernel
theorem dL_law_1028 : decode cL_law 1028 = .ok (.iconst 1, 1) := by decide +kernel
theorem dL_law_1029 : decode cL_law 1029 = .ok (.iadd, 1) := by decide +kernel
theorem dL_law_1030 : decode cL_law 1030 = .ok (.iaload, 1) := by decide +kernel
theorem dL_law_1031 : decode cL_law 1031 = .ok (.invokevirtual 157, 3) := by decide +kernel
theorem dL_law_1034 : decode cL_law 1034 = .ok (.if_icmp .eq 28, 3) := by decide +kernel
theorem dL_law_1037 : decode cL_law 1037 = .ok (.iconst 0, 1) := by decide +kernel
theorem dL_law_1038 : decode cL_law 1038 = .ok (.ireturn, 1) := by decide +kernel
theorem dL_law_1039 : decode cL_law 1039 = .ok (.aload_n 1, 1) := by decide +kernel
theorem dL_law_1040 : decode cL_law 1040 = .ok (.aload_n 0, 1) := by decide +kernel
theorem dL_law_1041 : decode cL_law 1041 = .ok (.iload_n 3, 1) := by decide +kernel
theorem dL_law_1042 : decode cL_law 1042 = .ok (.iconst 1, 1) := by decide +kernel
theorem dL_law_1043 : decode cL_law 1043 = .ok (.iadd, 1) := by decide +kernel
theorem dL_law_1044 : decode cL_law 1044 = .ok (.iaload, 1) := by decide +kernel
theorem dL_law_1045 : decode cL_law 1045 = .ok (.invokevirtual 158, 3) := by decide +kernel
theorem dL_law_1048 : decode cL_law 1048 = .ok (.aload_n 2, 1) := by decide +kernel
theorem dL_law_1049 : decode cL_law 1049 = .ok (.aload_n 0, 1) := by decide +kernel
theorem dL_law_1050 : decode cL_law 1050 = .ok (.iload_n 3, 1) := by decide +kernel
theorem dL_law_1051 : decode cL_law 1051 = .ok (.iconst 1, 1) := by decide +kernel
theorem dL_law_1052 : decode cL_law 1052 = .ok (.iadd, 1) := by decide +kernel
theorem dL_law_1053 : decode cL_law 1053 = .ok (.iaload, 1) := by decide +kernel
theorem dL_law_1054 : decode cL_law 1054 = .ok (.invokevirtual 161, 3) := by decide +kernel
theorem dL_law_1057 : decode cL_law 1057 = .ok (.if_icmp .eq 5, 3) := by decide +kernel
theorem dL_law_1060 : decode cL_law 1060 = .ok (.iconst 0, 1) := by decide +kernel
theorem dL_law_1061 : decode cL_law 1061 = .ok (.ireturn, 1) := by decide +kernel
theorem dL_law_1062 : decode cL_law 1062 = .ok (.iinc 3 4, 3) := by decide +kernel
theorem dL_law_1065 : decode cL_law 1065 = .ok (.goto (-1047), 3) := by decide +kernel
theorem dL_law_1068 : decode cL_law 1068 = .ok (.iconst 1, 1) := by decide +kernel
theorem dL_law_1069 : decode cL_law 1069 = .ok (.ireturn, 1) := by decide +kernel
end
section
theorem dJ6_bitCount_0f7a4_0 : decode cJ6_bitCount_0f7a4 0 = .ok (.iload_n 0, 1) := by decide +kernel
theorem dJ6_bitCount_0f7a4_1 : decode cJ6_bitCount_0f7a4 1 = .ok (.iload_n 0, 1) := by decide +kernel
theorem dJ6_bitCount_0f7a4_2 : decode cJ6_bitCount_0f7a4 2 = .ok (.iconst 1, 1) := by decide +kernel
theorem dJ6_bitCount_0f7a4_3 : decode cJ6_bitCount_0f7a4 3 = .ok (.iushr, 1) := by decide +kernel
theorem dJ6_bitCount_0f7a4_4 : decode cJ6_bitCount_0f7a4 4 = .ok (.ldc_w 265, 3) := by decide +kernel
theorem dJ6_bitCount_0f7a4_7 : decode cJ6_bitCount_0f7a4 7 = .ok (.iand, 1) := by decide +kernel
theorem dJ6_bitCount_0f7a4_8 : decode cJ6_bitCount_0f7a4 8 = .ok (.isub, 1) := by decide +kernel
theorem dJ6_bitCount_0f7a4_9 : decode cJ6_bitCount_0f7a4 9 = .ok (.istore_n 0, 1) := by decide +kernel
theorem dJ6_bitCount_0f7a4_10 : decode cJ6_bitCount_0f7a4 10 = .ok (.iload_n 0, 1) := by decide +kernel
theorem dJ6_bitCount_0f7a4_11 : decode cJ6_bitCount_0f7a4 11 = .ok (.ldc_w 266, 3) := by decide +kernel
theorem dJ6_bitCount_0f7a4_14 : decode cJ6_bitCount_0f7a4 14 = .ok (.iand, 1) := by decide +kernel
theorem dJ6_bitCount_0f7a4_15 : decode cJ6_bitCount_0f7a4 15 = .ok (.iload_n 0, 1) := by decide +kernel
theorem dJ6_bitCount_0f7a4_16 : decode cJ6_bitCount_0f7a4 16 = .ok (.iconst 2, 1) := by decide +kernel
theorem dJ6_bitCount_0f7a4_17 : decode cJ6_bitCount_0f7a4 17 = .ok (.iushr, 1) := by decide +kernel
theorem dJ6_bitCount_0f7a4_18 : decode cJ6_bitCount_0f7a4 18 = .ok (.ldc_w 266, 3) := by decide +kernel
theorem dJ6_bitCount_0f7a4_21 : decode cJ6_bitCount_0f7a4 21 = .ok (.iand, 1) := by decide +kernel
theorem dJ6_bitCount_0f7a4_22 : decode cJ6_bitCount_0f7a4 22 = .ok (.iadd, 1) := by decide +kernel
theorem dJ6_bitCount_0f7a4_23 : decode cJ6_bitCount_0f7a4 23 = .ok (.istore_n 0, 1) := by decide +kernel
theorem dJ6_bitCount_0f7a4_24 : decode cJ6_bitCount_0f7a4 24 = .ok (.iload_n 0, 1) := by decide +kernel
theorem dJ6_bitCount_0f7a4_25 : decode cJ6_bitCount_0f7a4 25 = .ok (.iload_n 0, 1) := by decide +kernel
theorem dJ6_bitCount_0f7a4_26 : decode cJ6_bitCount_0f7a4 26 = .ok (.iconst 4, 1) := by decide +kernel
theorem dJ6_bitCount_0f7a4_27 : decode cJ6_bitCount_0f7a4 27 = .ok (.iushr, 1) := by decide +kernel
theorem dJ6_bitCount_0f7a4_28 : decode cJ6_bitCount_0f7a4 28 = .ok (.iadd, 1) := by decide +kernel
theorem dJ6_bitCount_0f7a4_29 : decode cJ6_bitCount_0f7a4 29 = .ok (.ldc_w 267, 3) := by decide +kernel
theorem dJ6_bitCount_0f7a4_32 : decode cJ6_bitCount_0f7a4 32 = .ok (.iand, 1) := by decide +kernel
theorem dJ6_bitCount_0f7a4_33 : decode cJ6_bitCount_0f7a4 33 = .ok (.istore_n 0, 1) := by decide +kernel
theorem dJ6_bitCount_0f7a4_34 : decode cJ6_bitCount_0f7a4 34 = .ok (.iload_n 0, 1) := by decide +kernel
theorem dJ6_bitCount_0f7a4_35 : decode cJ6_bitCount_0f7a4 35 = .ok (.iload_n 0, 1) := by decide +kernel
theorem dJ6_bitCount_0f7a4_36 : decode cJ6_bitCount_0f7a4 36 = .ok (.bipush 8, 2) := by decide +kernel
theorem dJ6_bitCount_0f7a4_38 : decode cJ6_bitCount_0f7a4 38 = .ok (.iushr, 1) := by decide +kernel
theorem dJ6_bitCount_0f7a4_39 : decode cJ6_bitCount_0f7a4 39 = .ok (.iadd, 1) := by decide +kernel
theorem dJ6_bitCount_0f7a4_40 : decode cJ6_bitCount_0f7a4 40 = .ok (.istore_n 0, 1) := by decide +kernel
theorem dJ6_bitCount_0f7a4_41 : decode cJ6_bitCount_0f7a4 41 = .ok (.iload_n 0, 1) := by decide +kernel
theorem dJ6_bitCount_0f7a4_42 : decode cJ6_bitCount_0f7a4 42 = .ok (.iload_n 0, 1) := by decide +kernel
theorem dJ6_bitCount_0f7a4_43 : decode cJ6_bitCount_0f7a4 43 = .ok (.bipush 16, 2) := by decide +kernel
theorem dJ6_bitCount_0f7a4_45 : decode cJ6_bitCount_0f7a4 45 = .ok (.iushr, 1) := by decide +kernel
theorem dJ6_bitCount_0f7a4_46 : decode cJ6_bitCount_0f7a4 46 = .ok (.iadd, 1) := by decide +kernel
theorem dJ6_bitCount_0f7a4_47 : decode cJ6_bitCount_0f7a4 47 = .ok (.istore_n 0, 1) := by decide +kernel
theorem dJ6_bitCount_0f7a4_48 : decode cJ6_bitCount_0f7a4 48 = .ok (.iload_n 0, 1) := by decide +kernel
theorem dJ6_bitCount_0f7a4_49 : decode cJ6_bitCount_0f7a4 49 = .ok (.bipush 63, 2) := by decide +kernel
theorem dJ6_bitCount_0f7a4_51 : decode cJ6_bitCount_0f7a4 51 = .ok (.iand, 1) := by decide +kernel
theorem dJ6_bitCount_0f7a4_52 : decode cJ6_bitCount_0f7a4 52 = .ok (.ireturn, 1) := by decide +kernel
theorem dJ9_max_7cf53_0 : decode cJ9_max_7cf53 0 = .ok (.iload_n 0, 1) := by decide +kernel
theorem dJ9_max_7cf53_1 : decode cJ9_max_7cf53 1 = .ok (.iload_n 1, 1) := by decide +kernel
theorem dJ9_max_7cf53_2 : decode cJ9_max_7cf53 2 = .ok (.if_icmp .lt 7, 3) := by decide +kernel
theorem dJ9_max_7cf53_5 : decode cJ9_max_7cf53 5 = .ok (.iload_n 0, 1) := by decide +kernel
theorem dJ9_max_7cf53_6 : decode cJ9_max_7cf53 6 = .ok (.goto 4, 3) := by decide +kernel
theorem dJ9_max_7cf53_9 : decode cJ9_max_7cf53 9 = .ok (.iload_n 1, 1) := by decide +kernel
theorem dJ9_max_7cf53_10 : decode cJ9_max_7cf53 10 = .ok (.ireturn, 1) := by decide +kernel
theorem dJ0_length_8abf5_0 : decode cJ0_length_8abf5 0 = .ok (.aload_n 0, 1) := by decide +kernel
theorem dJ0_length_8abf5_1 : decode cJ0_length_8abf5 1 = .ok (.getfield 9, 3) := by decide +kernel
theorem dJ0_length_8abf5_4 : decode cJ0_length_8abf5 4 = .ok (.arraylength, 1) := by decide +kernel
theorem dJ0_length_8abf5_5 : decode cJ0_length_8abf5 5 = .ok (.aload_n 0, 1) := by decide +kernel
theorem dJ0_length_8abf5_6 : decode cJ0_length_8abf5 6 = .ok (.invokevirtual 335, 3) := by decide +kernel
theorem dJ0_length_8abf5_9 : decode cJ0_length_8abf5 9 = .ok (.ishr, 1) := by decide +kernel
theorem dJ0_length_8abf5_10 : decode cJ0_length_8abf5 10 = .ok (.ireturn, 1) := by decide +kernel
theorem dJ0_charAt_5068e_0 : decode cJ0_charAt_5068e 0 = .ok (.aload_n 0, 1) := by decide +kernel
theorem dJ0_charAt_5068e_1 : decode cJ0_charAt_5068e 1 = .ok (.invokevirtual 492, 3) := by decide +kernel
theorem dJ0_charAt_5068e_4 : decode cJ0_charAt_5068e 4 = .ok (.ifCond .eq 12, 3) := by decide +kernel
theorem dJ0_charAt_5068e_7 : decode cJ0_charAt_5068e 7 = .ok (.aload_n 0, 1) := by decide +kernel
theorem dJ0_charAt_5068e_8 : decode cJ0_charAt_5068e 8 = .ok (.getfield 9, 3) := by decide +kernel
theorem dJ0_charAt_5068e_11 : decode cJ0_charAt_5068e 11 = .ok (.iload_n 1, 1) := by decide +kernel
theorem dJ0_charAt_5068e_12 : decode cJ0_charAt_5068e 12 = .ok (.invokestatic 495, 3) := by decide +kernel
theorem dJ0_charAt_5068e_15 : decode cJ0_charAt_5068e 15 = .ok (.ireturn, 1) := by decide +kernel
theorem dJ0_charAt_5068e_16 : decode cJ0_charAt_5068e 16 = .ok (.aload_n 0, 1) := by decide +kernel
theorem dJ0_charAt_5068e_17 : decode cJ0_charAt_5068e 17 = .ok (.getfield 9, 3) := by decide +kernel
theorem dJ0_charAt_5068e_20 : decode cJ0_charAt_5068e 20 = .ok (.iload_n 1, 1) := by decide +kernel
theorem dJ0_charAt_5068e_21 : decode cJ0_charAt_5068e 21 = .ok (.invokestatic 498, 3) := by decide +kernel
theorem dJ0_charAt_5068e_24 : decode cJ0_charAt_5068e 24 = .ok (.ireturn, 1) := by decide +kernel
theorem dJ0_coder_7d493_0 : decode cJ0_coder_7d493 0 = .ok (.getstatic 38, 3) := by decide +kernel
theorem dJ0_coder_7d493_3 : decode cJ0_coder_7d493 3 = .ok (.ifCond .eq 10, 3) := by decide +kernel
theorem dJ0_coder_7d493_6 : decode cJ0_coder_7d493 6 = .ok (.aload_n 0, 1) := by decide +kernel
theorem dJ0_coder_7d493_7 : decode cJ0_coder_7d493 7 = .ok (.getfield 15, 3) := by decide +kernel
theorem dJ0_coder_7d493_10 : decode cJ0_coder_7d493 10 = .ok (.goto 4, 3) := by decide +kernel
theorem dJ0_coder_7d493_13 : decode cJ0_coder_7d493 13 = .ok (.iconst 1, 1) := by decide +kernel
theorem dJ0_coder_7d493_14 : decode cJ0_coder_7d493 14 = .ok (.ireturn, 1) := by decide +kernel
theorem dJ0_isLatin1_aae02_0 : decode cJ0_isLatin1_aae02 0 = .ok (.getstatic 38, 3) := by decide +kernel
theorem dJ0_isLatin1_aae02_3 : decode cJ0_isLatin1_aae02 3 = .ok (.ifCond .eq 14, 3) := by decide +kernel
theorem dJ0_isLatin1_aae02_6 : decode cJ0_isLatin1_aae02 6 = .ok (.aload_n 0, 1) := by decide +kernel
theorem dJ0_isLatin1_aae02_7 : decode cJ0_isLatin1_aae02 7 = .ok (.getfield 15, 3) := by decide +kernel
theorem dJ0_isLatin1_aae02_10 : decode cJ0_isLatin1_aae02 10 = .ok (.ifCond .ne 7, 3) := by decide +kernel
theorem dJ0_isLatin1_aae02_13 : decode cJ0_isLatin1_aae02 13 = .ok (.iconst 1, 1) := by decide +kernel
theorem dJ0_isLatin1_aae02_14 : decode cJ0_isLatin1_aae02 14 = .ok (.goto 4, 3) := by decide +kernel
theorem dJ0_isLatin1_aae02_17 : decode cJ0_isLatin1_aae02 17 = .ok (.iconst 0, 1) := by decide +kernel
theorem dJ0_isLatin1_aae02_18 : decode cJ0_isLatin1_aae02 18 = .ok (.ireturn, 1) := by decide +kernel
theorem dJ0_checkIndex_df160_0 : decode cJ0_checkIndex_df160 0 = .ok (.iload_n 0, 1) := by decide +kernel
theorem dJ0_checkIndex_df160_1 : decode cJ0_checkIndex_df160 1 = .ok (.iload_n 1, 1) := by decide +kernel
theorem dJ0_checkIndex_df160_2 : decode cJ0_checkIndex_df160 2 = .ok (.getstatic 1053, 3) := by decide +kernel
theorem dJ0_checkIndex_df160_5 : decode cJ0_checkIndex_df160 5 = .ok (.invokestatic 1059, 3) := by decide +kernel
theorem dJ0_checkIndex_df160_8 : decode cJ0_checkIndex_df160 8 = .ok (.pop, 1) := by decide +kernel
theorem dJ0_checkIndex_df160_9 : decode cJ0_checkIndex_df160 9 = .ok (.return_, 1) := by decide +kernel
theorem dJ1_charAt_3b067_0 : decode cJ1_charAt_3b067 0 = .ok (.iload_n 1, 1) := by decide +kernel
theorem dJ1_charAt_3b067_1 : decode cJ1_charAt_3b067 1 = .ok (.aload_n 0, 1) := by decide +kernel
theorem dJ1_charAt_3b067_2 : decode cJ1_charAt_3b067 2 = .ok (.arraylength, 1) := by decide +kernel
theorem dJ1_charAt_3b067_3 : decode cJ1_charAt_3b067 3 = .ok (.invokestatic 9, 3) := by decide +kernel
theorem dJ1_charAt_3b067_6 : decode cJ1_charAt_3b067 6 = .ok (.aload_n 0, 1) := by decide +kernel
theorem dJ1_charAt_3b067_7 : decode cJ1_charAt_3b067 7 = .ok (.iload_n 1, 1) := by decide +kernel
theorem dJ1_charAt_3b067_8 : decode cJ1_charAt_3b067 8 = .ok (.baload, 1) := by decide +kernel
theorem dJ1_charAt_3b067_9 : decode cJ1_charAt_3b067 9 = .ok (.sipush 255, 3) := by decide +kernel
theorem dJ1_charAt_3b067_12 : decode cJ1_charAt_3b067 12 = .ok (.iand, 1) := by decide +kernel
theorem dJ1_charAt_3b067_13 : decode cJ1_charAt_3b067 13 = .ok (.i2c, 1) := by decide +kernel
theorem dJ1_charAt_3b067_14 : decode cJ1_charAt_3b067 14 = .ok (.ireturn, 1) := by decide +kernel
theorem dJ2_getChar_3b067_0 : decode cJ2_getChar_3b067 0 = .ok (.getstatic 44, 3) := by decide +kernel
theorem dJ2_getChar_3b067_3 : decode cJ2_getChar_3b067 3 = .ok (.ifCond .ne 25, 3) := by decide +kernel
theorem dJ2_getChar_3b067_6 : decode cJ2_getChar_3b067 6 = .ok (.iload_n 1, 1) := by decide +kernel
theorem dJ2_getChar_3b067_7 : decode cJ2_getChar_3b067 7 = .ok (.ifCond .lt 11, 3) := by decide +kernel
theorem dJ2_getChar_3b067_10 : decode cJ2_getChar_3b067 10 = .ok (.iload_n 1, 1) := by decide +kernel
theorem dJ2_getChar_3b067_11 : decode cJ2_getChar_3b067 11 = .ok (.aload_n 0, 1) := by decide +kernel
theorem dJ2_getChar_3b067_12 : decode cJ2_getChar_3b067 12 = .ok (.invokestatic 48, 3) := by decide +kernel
theorem dJ2_getChar_3b067_15 : decode cJ2_getChar_3b067 15 = .ok (.if_icmp .lt 13, 3) := by decide +kernel
theorem dJ2_getChar_3b067_18 : decode cJ2_getChar_3b067 18 = .ok (.new 52, 3) := by decide +kernel
theorem dJ2_getChar_3b067_21 : decode cJ2_getChar_3b067 21 = .ok (.dup, 1) := by decide +kernel
theorem dJ2_getChar_3b067_22 : decode cJ2_getChar_3b067 22 = .ok (.ldc 54, 2) := by decide +kernel
theorem dJ2_getChar_3b067_24 : decode cJ2_getChar_3b067 24 = .ok (.invokespecial 56, 3) := by decide +kernel
theorem dJ2_getChar_3b067_27 : decode cJ2_getChar_3b067 27 = .ok (.athrow, 1) := by decide +kernel
theorem dJ2_getChar_3b067_28 : decode cJ2_getChar_3b067 28 = .ok (.iload_n 1, 1) := by decide +kernel
theorem dJ2_getChar_3b067_29 : decode cJ2_getChar_3b067 29 = .ok (.iconst 1, 1) := by decide +kernel
theorem dJ2_getChar_3b067_30 : decode cJ2_getChar_3b067 30 = .ok (.ishl, 1) := by decide +kernel
theorem dJ2_getChar_3b067_31 : decode cJ2_getChar_3b067 31 = .ok (.istore_n 1, 1) := by decide +kernel
theorem dJ2_getChar_3b067_32 : decode cJ2_getChar_3b067 32 = .ok (.aload_n 0, 1) := by decide +kernel
theorem dJ2_getChar_3b067_33 : decode cJ2_getChar_3b067 33 = .ok (.iload_n 1, 1) := by decide +kernel
theorem dJ2_getChar_3b067_34 : decode cJ2_getChar_3b067 34 = .ok (.iinc 1 1, 3) := by decide +kernel
theorem dJ2_getChar_3b067_37 : decode cJ2_getChar_3b067 37 = .ok (.baload, 1) := by decide +kernel
theorem dJ2_getChar_3b067_38 : decode cJ2_getChar_3b067 38 = .ok (.sipush 255, 3) := by decide +kernel
theorem dJ2_getChar_3b067_41 : decode cJ2_getChar_3b067 41 = .ok (.iand, 1) := by decide +kernel
theorem dJ2_getChar_3b067_42 : decode cJ2_getChar_3b067 42 = .ok (.getstatic 59, 3) := by decide +kernel
theorem dJ2_getChar_3b067_45 : decode cJ2_getChar_3b067 45 = .ok (.ishl, 1) := by decide +kernel
theorem dJ2_getChar_3b067_46 : decode cJ2_getChar_3b067 46 = .ok (.aload_n 0, 1) := by decide +kernel
theorem dJ2_getChar_3b067_47 : decode cJ2_getChar_3b067 47 = .ok (.iload_n 1, 1) := by decide +kernel
theorem dJ2_getChar_3b067_48 : decode cJ2_getChar_3b067 48 = .ok (.baload, 1) := by decide +kernel
theorem dJ2_getChar_3b067_49 : decode cJ2_getChar_3b067 49 = .ok (.sipush 255, 3) := by decide +kernel
theorem dJ2_getChar_3b067_52 : decode cJ2_getChar_3b067 52 = .ok (.iand, 1) := by decide +kernel
theorem dJ2_getChar_3b067_53 : decode cJ2_getChar_3b067 53 = .ok (.getstatic 63, 3) := by decide +kernel
theorem dJ2_getChar_3b067_56 : decode cJ2_getChar_3b067 56 = .ok (.ishl, 1) := by decide +kernel
theorem dJ2_getChar_3b067_57 : decode cJ2_getChar_3b067 57 = .ok (.ior, 1) := by decide +kernel
theorem dJ2_getChar_3b067_58 : decode cJ2_getChar_3b067 58 = .ok (.i2c, 1) := by decide +kernel
theorem dJ2_getChar_3b067_59 : decode cJ2_getChar_3b067 59 = .ok (.ireturn, 1) := by decide +kernel
theorem dJ2_length_9d52b_0 : decode cJ2_length_9d52b 0 = .ok (.aload_n 0, 1) := by decide +kernel
theorem dJ2_length_9d52b_1 : decode cJ2_length_9d52b 1 = .ok (.arraylength, 1) := by decide +kernel
theorem dJ2_length_9d52b_2 : decode cJ2_length_9d52b 2 = .ok (.iconst 1, 1) := by decide +kernel
theorem dJ2_length_9d52b_3 : decode cJ2_length_9d52b 3 = .ok (.ishr, 1) := by decide +kernel
theorem dJ2_length_9d52b_4 : decode cJ2_length_9d52b 4 = .ok (.ireturn, 1) := by decide +kernel
theorem dJ2_charAt_3b067_0 : decode cJ2_charAt_3b067 0 = .ok (.iload_n 1, 1) := by decide +kernel
theorem dJ2_charAt_3b067_1 : decode cJ2_charAt_3b067 1 = .ok (.aload_n 0, 1) := by decide +kernel
theorem dJ2_charAt_3b067_2 : decode cJ2_charAt_3b067 2 = .ok (.invokestatic 67, 3) := by decide +kernel
theorem dJ2_charAt_3b067_5 : decode cJ2_charAt_3b067 5 = .ok (.aload_n 0, 1) := by decide +kernel
theorem dJ2_charAt_3b067_6 : decode cJ2_charAt_3b067 6 = .ok (.iload_n 1, 1) := by decide +kernel
theorem dJ2_charAt_3b067_7 : decode cJ2_charAt_3b067 7 = .ok (.invokestatic 71, 3) := by decide +kernel
theorem dJ2_charAt_3b067_10 : decode cJ2_charAt_3b067 10 = .ok (.ireturn, 1) := by decide +kernel
theorem dJ2_checkIndex_2214a_0 : decode cJ2_checkIndex_2214a 0 = .ok (.iload_n 0, 1) := by decide +kernel
theorem dJ2_checkIndex_2214a_1 : decode cJ2_checkIndex_2214a 1 = .ok (.aload_n 1, 1) := by decide +kernel
theorem dJ2_checkIndex_2214a_2 : decode cJ2_checkIndex_2214a 2 = .ok (.invokestatic 48, 3) := by decide +kernel
theorem dJ2_checkIndex_2214a_5 : decode cJ2_checkIndex_2214a 5 = .ok (.invokestatic 414, 3) := by decide +kernel
theorem dJ2_checkIndex_2214a_8 : decode cJ2_checkIndex_2214a 8 = .ok (.return_, 1) := by decide +kernel
theorem dJ3_checkIndex_8e157_0 : decode cJ3_checkIndex_8e157 0 = .ok (.iload_n 0, 1) := by decide +kernel
theorem dJ3_checkIndex_8e157_1 : decode cJ3_checkIndex_8e157 1 = .ok (.ifCond .lt 8, 3) := by decide +kernel
theorem dJ3_checkIndex_8e157_4 : decode cJ3_checkIndex_8e157 4 = .ok (.iload_n 0, 1) := by decide +kernel
theorem dJ3_checkIndex_8e157_5 : decode cJ3_checkIndex_8e157 5 = .ok (.iload_n 1, 1) := by decide +kernel
theorem dJ3_checkIndex_8e157_6 : decode cJ3_checkIndex_8e157 6 = .ok (.if_icmp .lt 10, 3) := by decide +kernel
theorem dJ3_checkIndex_8e157_9 : decode cJ3_checkIndex_8e157 9 = .ok (.aload_n 2, 1) := by decide +kernel
theorem dJ3_checkIndex_8e157_10 : decode cJ3_checkIndex_8e157 10 = .ok (.iload_n 0, 1) := by decide +kernel
theorem dJ3_checkIndex_8e157_11 : decode cJ3_checkIndex_8e157 11 = .ok (.iload_n 1, 1) := by decide +kernel
theorem dJ3_checkIndex_8e157_12 : decode cJ3_checkIndex_8e157 12 = .ok (.invokestatic 95, 3) := by decide +kernel
theorem dJ3_checkIndex_8e157_15 : decode cJ3_checkIndex_8e157 15 = .ok (.athrow, 1) := by decide +kernel
theorem dJ3_checkIndex_8e157_16 : decode cJ3_checkIndex_8e157 16 = .ok (.iload_n 0, 1) := by decide +kernel
theorem dJ3_checkIndex_8e157_17 : decode cJ3_checkIndex_8e157 17 = .ok (.ireturn, 1) := by decide +kernel
end
section
/-! the words of the tables that keep, and where they stand -/
def TB : List Cond := lw_tbl.filter goodWord
theorem TBm {w : Cond} (i : Nat) (h : lw_tbl[i]? = some w) (g : goodWord w = true) : w ∈ TB := List.mem_filter.mpr ⟨List.mem_of_getElem? h, g⟩
theorem TBg : ∀ w ∈ TB, goodWord w = true := fun _ h => (List.mem_filter.mp h).2
theorem gIn {ws : List Cond} (h : ∀ w ∈ ws, w ∈ TB) : GoodIn TB ws := fun w hw => ⟨h w hw, good_of_word (TBg w (h w hw))⟩
theorem gV {own : String} {idx : Nat} {C : String} {y : MethodName} {b : ByteArray} {n : Nat} {ret : Option FieldType} (h1 : Cond.methodLink own idx y ∈ TB) (h2 : Cond.instanceMethod y ∈ TB) (h3 : Cond.selects C y y ∈ TB) (h4 : Cond.initialized C ∈ TB) (h5 : Cond.code y b n ret ∈ TB) : GoodIn TB (wsV own idx C y (.code y b n ret :: TB)) := by
  refine gIn fun w hw => ?_
  simp only [wsV, List.cons_append, List.nil_append, List.mem_cons] at hw
  rcases hw with rfl | rfl | rfl | rfl | rfl | hw <;> assumption
theorem gS {own : String} {idx : Nat} {y : MethodName} {b : ByteArray} {n : Nat} {ret : Option FieldType} (h1 : Cond.methodLink own idx y ∈ TB) (h2 : Cond.static y ∈ TB) (h4 : Cond.initialized y.cls ∈ TB) (h5 : Cond.code y b n ret ∈ TB) : GoodIn TB (va_wsS own idx y (.code y b n ret :: TB)) := by
  refine gIn fun w hw => ?_
  simp only [va_wsS, List.cons_append, List.nil_append, List.mem_cons] at hw
  rcases hw with rfl | rfl | rfl | rfl | hw <;> assumption
theorem gC {y : MethodName} {b : ByteArray} {n : Nat} {ret : Option FieldType} (h5 : Cond.code y b n ret ∈ TB) : GoodIn TB (.code y b n ret :: TB) := by
  refine gIn fun w hw => ?_
  rcases List.mem_cons.mp hw with rfl | hw <;> assumption
/-! the memory: a row of ints for each cell -/
abbrev Mem : Type := Nat → Nat → Int32
def setR (M : Mem) (k : Nat) (row : Nat → Int32) : Mem := fun j => if j = k then row else M j
def wr (M : Mem) (k i : Nat) (v : Int32) : Mem := setR M k (upd (M k) i v)
def WW (N : Nat) (sh : Nat → (Nat → Int32) → va_E) (ad : Nat → Nat) (M : Mem) : va_W := (List.range N).map fun k => (ad k, sh k (M k))
theorem WW_get {N : Nat} {sh : Nat → (Nat → Int32) → va_E} {ad : Nat → Nat} {M : Mem} {k : Nat} (hk : k < N) : (WW N sh ad M)[k]? = some (ad k, sh k (M k)) := by
  simp [WW, List.getElem?_map, List.getElem?_range, hk]
theorem WW_in {N : Nat} {sh : Nat → (Nat → Int32) → va_E} {ad : Nat → Nat} {M : Mem} {k : Nat} {q : Nat × va_E} (h : (WW N sh ad M)[k]? = some q) : k < N ∧ q = (ad k, sh k (M k)) := by
  have hk : k < N := by
    have := (List.getElem?_eq_some_iff.mp h).1
    simpa [WW] using this
  exact ⟨hk, (Option.some.inj ((WW_get hk).symm.trans h)).symm⟩
theorem WW_set {N : Nat} {sh : Nat → (Nat → Int32) → va_E} {ad : Nat → Nat} {M : Mem} {k : Nat} (row : Nat → Int32) : (WW N sh ad M).set k (ad k, sh k row) = WW N sh ad (setR M k row) := by
  apply List.ext_getElem?
  intro i
  by_cases hi : i < N
  · rw [WW_get hi, List.getElem?_set]
    have hlen : (WW N sh ad M).length = N := by simp [WW]
    by_cases hik : k = i
    · subst hik
      rw [if_pos rfl, if_pos (by rw [hlen]; exact hi)]
      simp [setR]
    · rw [if_neg hik, WW_get hi]
      simp [setR, Ne.symm hik]
  · rw [List.getElem?_eq_none (by simp [WW]; omega), List.getElem?_eq_none (by simp [WW]; omega)]
def AW (N : Nat) (ad : Nat → Nat) : Nat → Prop := fun q => ∃ k, k < N ∧ q = ad k
def Apart (N : Nat) (ad : Nat → Nat) : Prop := ∀ i j, i < N → j < N → ad i = ad j → i = j
theorem WW_D {N : Nat} {sh : Nat → (Nat → Int32) → va_E} {ad : Nat → Nat} {M : Mem} (h : Apart N ad) : va_D (AW N ad) (WW N sh ad M) := by
  refine ⟨fun i j p q hp hq e => ?_, fun k q hq => ?_⟩
  · obtain ⟨hi, rfl⟩ := WW_in hp
    obtain ⟨hj, rfl⟩ := WW_in hq
    exact h i j hi hj e
  · obtain ⟨hi, rfl⟩ := WW_in hq
    exact ⟨k, hi, rfl⟩
/-! what a method finds -/
/-- what a method needs beside its world and the tables: it outlives calls and writes within the world -/
def ExOK (Ex : State → Prop) (N : Nat) (ad : Nat → Nat) : Prop := (∀ (U : State) (g : JFrame) (mk : MethodId) (a : Array Value), Ex U → Ex (U.calling g mk a)) ∧ ∀ (s U : State) (H : Heap) (locs : List Loc), Ex s → va_S (AW N ad) s.heap H locs → U.heap = H → s.WarmedH U.vm → Ex U
def PW (G : va_G) (tys : List (ClassId × FieldType)) (Ex : State → Prop) (N : Nat) (sh : Nat → (Nat → Int32) → va_E) (ad : Nat → Nat) (M : Mem) (U : State) : Prop :=
  va_P G vwCl (WW N sh ad M) U.heap ∧ va_K G vwCl tys U ∧ Ex U
/-- the circumstances of a method's walk -/
def EV (G : va_G) (tys : List (ClassId × FieldType)) (Ex : State → Prop) (N : Nat) (ad : Nat → Nat) (p : Program) (s : State) (m : MethodId) (args : Array Value) (meth : Method) (c : Code) (own : String) (b : ByteArray) (n : Nat) (ret : Option FieldType) : Prop :=
  p.tables.exec = Jvm.exec ∧ c.code = b ∧ c.maxLocals = n ∧ meth.sig.returnType = ret ∧ meth.locks = false ∧ s.vm.findClass own = some m.cls ∧ (∀ w ∈ TB, w.before args s = true) ∧ va_K G vwCl tys s ∧ Ex s ∧ Apart N ad
/-- an int comes back (or a boolean, a char): v; the memory is M' then -/
def CI (G : va_G) (tys : List (ClassId × FieldType)) (Ex : State → Prop) (N : Nat) (sh : Nat → (Nat → Int32) → va_E) (ad : Nat → Nat) (y : MethodName) (b : ByteArray) (n : Nat) (ty : FieldType) (rm : Room) (av : List Value) (M : Mem) (v : Int32) (M' : Mem) : Prop :=
  ∀ l : Launch, Met l y (.code y b n (some ty) :: TB) rm (va_Pc av (PW G tys Ex N sh ad M)) (va_Qi (fun r (_ : Unit) => r = v ∧ narrow ty (.int r) = .int r) (fun _ t => va_P G vwCl (WW N sh ad M') t.heap) (AW N ad)) 0 0 (AW N ad)
def CV (G : va_G) (tys : List (ClassId × FieldType)) (Ex : State → Prop) (N : Nat) (sh : Nat → (Nat → Int32) → va_E) (ad : Nat → Nat) (y : MethodName) (b : ByteArray) (n : Nat) (rm : Room) (av : List Value) (M : Mem) (M' : Mem) : Prop :=
  ∀ l : Launch, Met l y (.code y b n none :: TB) rm (va_Pc av (PW G tys Ex N sh ad M)) (va_Qv (fun (_ : Unit) => True) (fun _ t => va_P G vwCl (WW N sh ad M') t.heap) (AW N ad)) 0 0 (AW N ad)
abbrev QI (below : List Frame) (G : va_G) (N : Nat) (sh : Nat → (Nat → Int32) → va_E) (ad : Nat → Nat) (ty : FieldType) (args : Array Value) (s : State) (v : Int32) (M' : Mem) : State → Prop :=
  MQ below (va_Qi (fun r (_ : Unit) => r = v ∧ narrow ty (.int r) = .int r) (fun _ t => va_P G vwCl (WW N sh ad M') t.heap) (AW N ad)) args s 0 0 (AW N ad)
abbrev QV (below : List Frame) (G : va_G) (N : Nat) (sh : Nat → (Nat → Int32) → va_E) (ad : Nat → Nat) (args : Array Value) (s : State) (M' : Mem) : State → Prop :=
  MQ below (va_Qv (fun (_ : Unit) => True) (fun _ t => va_P G vwCl (WW N sh ad M') t.heap) (AW N ad)) args s 0 0 (AW N ad)
section MK
variable {G : va_G} {tys : List (ClassId × FieldType)} {Ex : State → Prop} {N : Nat} {sh : Nat → (Nat → Int32) → va_E} {ad : Nat → Nat} {y : MethodName} {b : ByteArray} {n : Nat} {ty : FieldType} {rm : Room} {av : List Value} {M : Mem} {v : Int32} {M' : Mem}
theorem CI.mk {ls0 : List (Nat × Value)} (hy : plainName y.cls = true) (hap : Apart N ad) (hn : (lg_sl av).length ≤ n) (hls : lv_args 0 av = ls0)
    (h : ∀ (p : Program) (l : Launch) (e : Env) (s : State) (m : MethodId) (args : Array Value) (below : List Frame) (meth : Method) (c : Code) (ls : Array Slot), EV G tys Ex N ad p s m args meth c y.cls b n (some ty) → va_P G vwCl (WW N sh ad M) s.heap → lv_has ls n ls0 →
      W p l e rm s m args below meth c s.heap [] 0 0 (QI below G N sh ad ty args s v M') (F0 m 0 ls [])) : CI G tys Ex N sh ad y b n ty rm av M v M' := by
  intro l
  refine Met.ofW (cc := b) (maxL := n) (ret := some ty) hy rfl ?_
  intro p e s m args below meth c s₁ B hml hv
  obtain ⟨rfl, hP, hK, hN⟩ := hv
  have hl := lv_entry av (n := n) hn
  rw [lg_entry_eq]
  rw [hls] at hl
  exact h p l e s m _ below meth c _ ⟨B.exec, B.bytes, hml, B.returns, B.notSynchronized, findClass_of_methodNamed B.named, fun w hw => atoms_spec (ws := .code y b n (some ty) :: TB) B.pre w (List.mem_cons_of_mem _ hw), hK, hN, hap⟩ hP hl
theorem CV.mk {ls0 : List (Nat × Value)} (hy : plainName y.cls = true) (hap : Apart N ad) (hn : (lg_sl av).length ≤ n) (hls : lv_args 0 av = ls0)
    (h : ∀ (p : Program) (l : Launch) (e : Env) (s : State) (m : MethodId) (args : Array Value) (below : List Frame) (meth : Method) (c : Code) (ls : Array Slot), EV G tys Ex N ad p s m args meth c y.cls b n none → va_P G vwCl (WW N sh ad M) s.heap → lv_has ls n ls0 →
      W p l e rm s m args below meth c s.heap [] 0 0 (QV below G N sh ad args s M') (F0 m 0 ls [])) : CV G tys Ex N sh ad y b n rm av M M' := by
  intro l
  refine Met.ofW (cc := b) (maxL := n) (ret := none) hy rfl ?_
  intro p e s m args below meth c s₁ B hml hv
  obtain ⟨rfl, hP, hK, hN⟩ := hv
  have hl := lv_entry av (n := n) hn
  rw [lg_entry_eq]
  rw [hls] at hl
  exact h p l e s m _ below meth c _ ⟨B.exec, B.bytes, hml, B.returns, B.notSynchronized, findClass_of_methodNamed B.named, fun w hw => atoms_spec (ws := .code y b n none :: TB) B.pre w (List.mem_cons_of_mem _ hw), hK, hN, hap⟩ hP hl
end MK
section XR
variable {G : va_G} {tys : List (ClassId × FieldType)} {Ex : State → Prop} {N : Nat} {sh : Nat → (Nat → Int32) → va_E} {ad : Nat → Nat} {M : Mem}
variable {p : Program} {l : Launch} {e : Env} {R : Room} {s : State} {m : MethodId} {args : Array Value} {below : List Frame} {meth : Method} {c : Code} {H : Heap} {locs : List Loc} {Q : State → Prop}
variable {own : String} {b : ByteArray} {n : Nat} {ret : Option FieldType} {pc : Nat} {ls : Array Slot} {rest : List Value}
theorem x_iret {ty : FieldType} {v : Int32} {M' : Mem} (E : EV G tys Ex N ad p s m args meth c own b n (some ty)) (hP : va_P G vwCl (WW N sh ad M') H) (hS : va_S (AW N ad) s.heap H locs) (hn : narrow ty (.int v) = .int v) (hdg : decode b pc = .ok (.ireturn, 1)) :
    W p l e R s m args below meth c H locs 0 0 (QI below G N sh ad ty args s v M') (F0 m pc ls [.int v]) :=
  W.zret (ty := ty) E.1 E.2.1 E.2.2.2.1 hn (fun t ht _ => ⟨⟨v, (), rfl, ⟨rfl, hn⟩, by rw [← ht] at hP; exact hP⟩, hS.F ht⟩) hS.2.2 hdg E.2.2.2.2.1
theorem x_vret {M' : Mem} (E : EV G tys Ex N ad p s m args meth c own b n none) (hP : va_P G vwCl (WW N sh ad M') H) (hS : va_S (AW N ad) s.heap H locs) (hdg : decode b pc = .ok (.return_, 1)) :
    W p l e R s m args below meth c H locs 0 0 (QV below G N sh ad args s M') (F0 m pc ls []) :=
  W.vret E.1 E.2.1 E.2.2.2.1 (fun t ht _ => ⟨⟨(), rfl, trivial, by rw [← ht] at hP; exact hP⟩, hS.F ht⟩) hS.2.2 hdg E.2.2.2.2.1
/-- a field is read -/
theorem x_get {k ci : Nat} {fs : (Nat → Int32) → List Value} (E : EV G tys Ex N ad p s m args meth c own b n ret) (hP : va_P G vwCl (WW N sh ad M) H) (hk : k < N) (hs : ∀ row, sh k row = .inr (ci, fs row)) {C : String} {T : u_T} {NN index : Nat} (hc : vwCl[ci]? = some (C, T, NN)) (hin : ∀ w ∈ u_ws C T NN, w ∈ TB) (i : Nat) (hi : i < NN)
    (hlink : Cond.fieldLink own index (T i).1 (T i).2.1 (T i).2.2.1 ∈ TB) {v : Value} (hv : (fs (M k))[i]? = some v) (hdg : decode b pc = .ok (.getfield index, 3))
    (kk : W p l e R s m args below meth c H locs 0 0 Q (F0 m (pc + 3) ls (v :: rest))) : W p l e R s m args below meth c H locs 0 0 Q (F0 m pc ls (.ref (ad k) :: rest)) :=
  va_get (D := G) (cl := vwCl) (ci := ci) (C := C) (T := T) (N := NN) (fs := fs (M k)) (v := v) E.1 E.2.1 E.2.2.2.2.2.2.1 hin E.2.2.2.2.2.1 E.2.2.2.2.2.2.2.1 hP k (by rw [WW_get hk, hs]) hc i hi (E.2.2.2.2.2.2.1 _ hlink) (fun _ h => h) hv hdg kk
/-- a field is written -/
theorem x_put {k ci : Nat} {fs : (Nat → Int32) → List Value} (E : EV G tys Ex N ad p s m args meth c own b n ret) (hP : va_P G vwCl (WW N sh ad M) H) (hS : va_S (AW N ad) s.heap H locs) (hk : k < N) (hs : ∀ row, sh k row = .inr (ci, fs row)) {C : String} {T : u_T} {NN index : Nat} (tyf : Nat → FieldType) (hty : ∀ k, k < NN → parseFieldDescriptor (T k).2.2.1 = some (tyf k)) (hnm : ∀ a, a < NN → ∀ b, b < NN → a ≠ b → (T a).2.1 ≠ (T b).2.1) (hc : vwCl[ci]? = some (C, T, NN)) (hin : ∀ w ∈ u_ws C T NN, w ∈ TB) (i : Nat) (hi : i < NN)
    (hlink : Cond.fieldLink own index (T i).1 (T i).2.1 (T i).2.2.1 ∈ TB) (hfin : (T i).2.2.2 = false) {v : Int32} (hn : narrow (tyf i) (.int v) = .int v) (hfit : fits (tyf i) (.int v) = true) (hl : i < (fs (M k)).length) (hset : (fs (M k)).set i (.int v) = fs (upd (M k) i v)) (hdg : decode b pc = .ok (.putfield index, 3))
    (kk : ∀ H1 locs1, va_P G vwCl (WW N sh ad (wr M k i v)) H1 → va_S (AW N ad) s.heap H1 locs1 → W p l e R s m args below meth c H1 locs1 0 0 Q (F0 m (pc + 3) ls rest)) : W p l e R s m args below meth c H locs 0 0 Q (F0 m pc ls (.int v :: .ref (ad k) :: rest)) := by
  refine va_put (D := G) (cl := vwCl) (ci := ci) (C := C) (T := T) (N := NN) (fs := fs (M k)) (v := .int v) (ty := tyf i) E.1 E.2.1 E.2.2.2.2.2.2.1 hin tyf hty hnm E.2.2.2.2.2.1 E.2.2.2.2.2.2.2.1 hP (WW_D E.2.2.2.2.2.2.2.2.2) hS k (by rw [WW_get hk, hs]) hc i hi (E.2.2.2.2.2.2.1 _ hlink) (fun _ h => h) hfin (hty i hi) hn hfit hl hdg (fun H1 locs1 hP1 _ hS1 => kk H1 locs1 ?_ hS1)
  rw [hset, ← hs, WW_set] at hP1
  exact hP1
/-- an array's element is read; its length -/
theorem x_iald {k len : Nat} {cA : ClassId} (E : EV G tys Ex N ad p s m args meth c own b n ret) (hP : va_P G vwCl (WW N sh ad M) H) (hk : k < N) (hs : ∀ row, sh k row = .inl (cA, len, .inl row)) (t0 : Nat) (ht : tys[t0]? = some (cA, .int)) {i : Int32} {j : Nat} (hin : vp_in i len) (hj : i.toNatClampNeg = j) (hdg : decode b pc = .ok (.iaload, 1))
    (kk : W p l e R s m args below meth c H locs 0 0 Q (F0 m (pc + 1) ls (.int (M k j) :: rest))) : W p l e R s m args below meth c H locs 0 0 Q (F0 m pc ls (.int i :: .ref (ad k) :: rest)) :=
  by subst hj; exact va_iald (D := G) (cl := vwCl) E.1 E.2.1 E.2.2.2.2.2.2.2.1 hP k t0 (f := M k) (n := len) (by rw [WW_get hk, hs]) ht hin hdg kk
theorem x_cald {k len : Nat} {cA : ClassId} (E : EV G tys Ex N ad p s m args meth c own b n ret) (hP : va_P G vwCl (WW N sh ad M) H) (hk : k < N) (hs : ∀ row, sh k row = .inl (cA, len, .inl row)) (t0 : Nat) (ht : tys[t0]? = some (cA, .char)) {i : Int32} {j : Nat} (hin : vp_in i len) (hj : i.toNatClampNeg = j) (hdg : decode b pc = .ok (.caload, 1))
    (kk : W p l e R s m args below meth c H locs 0 0 Q (F0 m (pc + 1) ls (.int (M k j) :: rest))) : W p l e R s m args below meth c H locs 0 0 Q (F0 m pc ls (.int i :: .ref (ad k) :: rest)) :=
  by subst hj; exact va_cald (D := G) (cl := vwCl) E.1 E.2.1 E.2.2.2.2.2.2.2.1 hP k t0 (f := M k) (n := len) (by rw [WW_get hk, hs]) ht hin hdg kk
theorem x_zald {k len : Nat} {cA : ClassId} (E : EV G tys Ex N ad p s m args meth c own b n ret) (hP : va_P G vwCl (WW N sh ad M) H) (hk : k < N) (hs : ∀ row, sh k row = .inl (cA, len, .inl row)) (t0 : Nat) (ht : tys[t0]? = some (cA, .boolean)) {i : Int32} {j : Nat} (hin : vp_in i len) (hj : i.toNatClampNeg = j) (hdg : decode b pc = .ok (.baload, 1))
    (kk : W p l e R s m args below meth c H locs 0 0 Q (F0 m (pc + 1) ls (.int (M k j) :: rest))) : W p l e R s m args below meth c H locs 0 0 Q (F0 m pc ls (.int i :: .ref (ad k) :: rest)) :=
  by subst hj; exact va_zald (D := G) (cl := vwCl) E.1 E.2.1 E.2.2.2.2.2.2.2.1 hP k t0 (f := M k) (n := len) (by rw [WW_get hk, hs]) ht hin hdg kk
theorem x_alen {k len : Nat} {cA : ClassId} (E : EV G tys Ex N ad p s m args meth c own b n ret) (hP : va_P G vwCl (WW N sh ad M) H) (hk : k < N) (hs : ∀ row, sh k row = .inl (cA, len, .inl row)) (t0 : Nat) {ty : FieldType} (ht : tys[t0]? = some (cA, ty)) {v : Int32} (hv : Int32.ofNat len = v) (hdg : decode b pc = .ok (.arraylength, 1))
    (kk : W p l e R s m args below meth c H locs 0 0 Q (F0 m (pc + 1) ls (.int v :: rest))) : W p l e R s m args below meth c H locs 0 0 Q (F0 m pc ls (.ref (ad k) :: rest)) :=
  va_alen (D := G) (cl := vwCl) E.1 E.2.1 E.2.2.2.2.2.2.2.1 hP k t0 (x := (len, .inl (M k))) (by rw [WW_get hk, hs]) ht hv hdg kk
theorem x_iast {k len : Nat} {cA : ClassId} (E : EV G tys Ex N ad p s m args meth c own b n ret) (hP : va_P G vwCl (WW N sh ad M) H) (hS : va_S (AW N ad) s.heap H locs) (hk : k < N) (hs : ∀ row, sh k row = .inl (cA, len, .inl row)) (t0 : Nat) (ht : tys[t0]? = some (cA, .int)) {i x : Int32} {j : Nat} (hin : vp_in i len) (hj : i.toNatClampNeg = j) (hdg : decode b pc = .ok (.iastore, 1))
    (kk : ∀ H1 locs1, va_P G vwCl (WW N sh ad (wr M k j x)) H1 → va_S (AW N ad) s.heap H1 locs1 → W p l e R s m args below meth c H1 locs1 0 0 Q (F0 m (pc + 1) ls rest)) : W p l e R s m args below meth c H locs 0 0 Q (F0 m pc ls (.int x :: .int i :: .ref (ad k) :: rest)) := by
  subst hj
  refine va_iast (D := G) (cl := vwCl) E.1 E.2.1 E.2.2.2.2.2.2.2.1 hP (WW_D E.2.2.2.2.2.2.2.2.2) hS k t0 (f := M k) (n := len) (by rw [WW_get hk, hs]) ht hin hdg (fun H1 locs1 hP1 _ hS1 => kk H1 locs1 ?_ hS1)
  rw [← hs, WW_set] at hP1
  exact hP1
/-- calls -/
theorem PW.blind {av : List Value} (hEx : ExOK Ex N ad) : FrameBlind (va_Pc av (PW G tys Ex N sh ad M)) := fun a U g mk q => by
  obtain ⟨q0, qP, qK, qN⟩ := q
  exact ⟨q0, qP, va_K.moved (u := U) (U := U.calling g mk a) (Vm.Alike.refl U.vm) qK, hEx.1 U g mk a qN⟩
theorem PW.at {av : List Value} (hEx : ExOK Ex N ad) (E : EV G tys Ex N ad p s m args meth c own b n ret) (hP : va_P G vwCl (WW N sh ad M) H) (hS : va_S (AW N ad) s.heap H locs) : ∀ U : State, U.heap = H → s.WarmedH U.vm → va_Pc av (PW G tys Ex N sh ad M) av.toArray U := fun U hU hW =>
  ⟨rfl, by rw [hU]; exact hP, va_K.moved hW.alike E.2.2.2.2.2.2.2.1, hEx.2 s U H locs E.2.2.2.2.2.2.2.2.1 hS hU hW⟩
theorem x_callVi {y : MethodName} {b' : ByteArray} {n' : Nat} {ty : FieldType} {rm : Room} {As : List Value} {v : Int32} {M' : Mem} {k ci idx na : Nat} {fs : (Nat → Int32) → List Value} {C : String} {q : u_T × Nat} {st : List Value}
    (E : EV G tys Ex N ad p s m args meth c own b n ret) (hEx : ExOK Ex N ad) (hl : ls.size = n) (hP : va_P G vwCl (WW N sh ad M) H) (hS : va_S (AW N ad) s.heap H locs)
    (hC : CI G tys Ex N sh ad y b' n' ty rm (.ref (ad k) :: As) M v M') (hG : GoodIn TB (wsV own idx C y (.code y b' n' (some ty) :: TB)))
    (hd : y.cls = C ∧ y.cls ≠ "java/lang/invoke/MethodHandle" ∧ y.cls ≠ "java/lang/invoke/VarHandle" ∧ (parseMethodDescriptor y.desc).map (fun d => d.parameters.length) = some na) (hna : As.length = na)
    (hk : k < N) (hs : ∀ row, sh k row = .inr (ci, fs row)) (hc : vwCl[ci]? = some (C, q)) (hR : rm.frames + 1 ≤ R.frames ∧ 8 + (n' + 11) + rm.locals ≤ R.locals) (hz : rm.cells = 0 ∧ rm.slots = 0)
    (hdg : decode b pc = .ok (.invokevirtual idx, 3)) (hst : st = As.reverse ++ .ref (ad k) :: rest) (hcat : (rest.map fun v => v.category).sum ≤ 8)
    (kk : ∀ H1 locs1, va_P G vwCl (WW N sh ad M') H1 → va_S (AW N ad) s.heap H1 locs1 → narrow ty (.int v) = .int v → W p l e R s m args below meth c H1 locs1 0 0 Q (F0 m (pc + 3) ls (.int v :: rest))) :
    W p l e R s m args below meth c H locs 0 0 Q (F0 m pc ls st) := by
  subst hst
  refine va_calli (va_runV (As := As) (rest := rest) ⟨E.1, E.2.1, E.2.2.1, E.2.2.2.2.2.1, E.2.2.2.2.2.2.1⟩ (hC l) (cwV na E.2.2.2.2.2.2.1 hG rfl hz.1 hz.2 hd hR) ⟨PW.blind hEx, va_recv E.2.2.2.2.2.2.2.1 hP (ci := ci) (q0 := k) hc (by rw [WW_get hk, hs]), PW.at hEx E hP hS⟩ rfl hna hl rfl (lv_room hcat) hdg ⟨Nat.zero_le _, Nat.zero_le _⟩) hS (fun q _ h => h) (fun q h => h) (fun r u t H1 locs1 ht hvm hw hB hz1 hk1 hS1 => ?_)
  obtain ⟨rfl, hnr⟩ := hw
  rw [ht] at hB
  exact kk H1 locs1 hB hS1 hnr
theorem x_callVv {y : MethodName} {b' : ByteArray} {n' : Nat} {rm : Room} {As : List Value} {M' : Mem} {k ci idx na : Nat} {fs : (Nat → Int32) → List Value} {C : String} {q : u_T × Nat} {st : List Value}
    (E : EV G tys Ex N ad p s m args meth c own b n ret) (hEx : ExOK Ex N ad) (hl : ls.size = n) (hP : va_P G vwCl (WW N sh ad M) H) (hS : va_S (AW N ad) s.heap H locs)
    (hC : CV G tys Ex N sh ad y b' n' rm (.ref (ad k) :: As) M M') (hG : GoodIn TB (wsV own idx C y (.code y b' n' none :: TB)))
    (hd : y.cls = C ∧ y.cls ≠ "java/lang/invoke/MethodHandle" ∧ y.cls ≠ "java/lang/invoke/VarHandle" ∧ (parseMethodDescriptor y.desc).map (fun d => d.parameters.length) = some na) (hna : As.length = na)
    (hk : k < N) (hs : ∀ row, sh k row = .inr (ci, fs row)) (hc : vwCl[ci]? = some (C, q)) (hR : rm.frames + 1 ≤ R.frames ∧ 8 + (n' + 11) + rm.locals ≤ R.locals) (hz : rm.cells = 0 ∧ rm.slots = 0)
    (hdg : decode b pc = .ok (.invokevirtual idx, 3)) (hst : st = As.reverse ++ .ref (ad k) :: rest) (hcat : (rest.map fun v => v.category).sum ≤ 8)
    (kk : ∀ H1 locs1, va_P G vwCl (WW N sh ad M') H1 → va_S (AW N ad) s.heap H1 locs1 → W p l e R s m args below meth c H1 locs1 0 0 Q (F0 m (pc + 3) ls rest)) :
    W p l e R s m args below meth c H locs 0 0 Q (F0 m pc ls st) := by
  subst hst
  refine va_callv (va_runV (As := As) (rest := rest) ⟨E.1, E.2.1, E.2.2.1, E.2.2.2.2.2.1, E.2.2.2.2.2.2.1⟩ (hC l) (cwV na E.2.2.2.2.2.2.1 hG rfl hz.1 hz.2 hd hR) ⟨PW.blind hEx, va_recv E.2.2.2.2.2.2.2.1 hP (ci := ci) (q0 := k) hc (by rw [WW_get hk, hs]), PW.at hEx E hP hS⟩ rfl hna hl rfl (lv_room hcat) hdg ⟨Nat.zero_le _, Nat.zero_le _⟩) hS (fun q _ h => h) (fun q h => h) (fun u t H1 locs1 ht hvm hw hB hz1 hk1 hS1 => ?_)
  rw [ht] at hB
  exact kk H1 locs1 hB hS1
theorem x_callSi {y : MethodName} {b' : ByteArray} {n' : Nat} {ty : FieldType} {rm : Room} {As : List Value} {v : Int32} {M' : Mem} {idx na : Nat} {st : List Value}
    (E : EV G tys Ex N ad p s m args meth c own b n ret) (hEx : ExOK Ex N ad) (hl : ls.size = n) (hP : va_P G vwCl (WW N sh ad M) H) (hS : va_S (AW N ad) s.heap H locs)
    (hC : CI G tys Ex N sh ad y b' n' ty rm As M v M') (hG : GoodIn TB (va_wsS own idx y (.code y b' n' (some ty) :: TB)))
    (hd : y.cls ≠ "java/lang/invoke/MethodHandle" ∧ y.cls ≠ "java/lang/invoke/VarHandle" ∧ (parseMethodDescriptor y.desc).map (fun d => d.parameters.length) = some na) (hna : As.length = na)
    (hR : rm.frames + 1 ≤ R.frames ∧ 8 + (n' + 11) + rm.locals ≤ R.locals) (hz : rm.cells = 0 ∧ rm.slots = 0)
    (hdg : decode b pc = .ok (.invokestatic idx, 3)) (hst : st = As.reverse ++ rest) (hcat : (rest.map fun v => v.category).sum ≤ 8)
    (kk : ∀ H1 locs1, va_P G vwCl (WW N sh ad M') H1 → va_S (AW N ad) s.heap H1 locs1 → narrow ty (.int v) = .int v → W p l e R s m args below meth c H1 locs1 0 0 Q (F0 m (pc + 3) ls (.int v :: rest))) :
    W p l e R s m args below meth c H locs 0 0 Q (F0 m pc ls st) := by
  subst hst
  refine va_calli (va_runS (As := As) (rest := rest) ⟨E.1, E.2.1, E.2.2.1, E.2.2.2.2.2.1, E.2.2.2.2.2.2.1⟩ (hC l) (va_cwS na E.2.2.2.2.2.2.1 hG rfl hz.1 hz.2 hd hR) ⟨PW.blind hEx, PW.at hEx E hP hS⟩ rfl hna hl rfl (lv_room hcat) hdg ⟨Nat.zero_le _, Nat.zero_le _⟩) hS (fun q _ h => h) (fun q h => h) (fun r u t H1 locs1 ht hvm hw hB hz1 hk1 hS1 => ?_)
  obtain ⟨rfl, hnr⟩ := hw
  rw [ht] at hB
  exact kk H1 locs1 hB hS1 hnr
theorem x_callSv {y : MethodName} {b' : ByteArray} {n' : Nat} {rm : Room} {As : List Value} {M' : Mem} {idx na : Nat} {st : List Value}
    (E : EV G tys Ex N ad p s m args meth c own b n ret) (hEx : ExOK Ex N ad) (hl : ls.size = n) (hP : va_P G vwCl (WW N sh ad M) H) (hS : va_S (AW N ad) s.heap H locs)
    (hC : CV G tys Ex N sh ad y b' n' rm As M M') (hG : GoodIn TB (va_wsS own idx y (.code y b' n' none :: TB)))
    (hd : y.cls ≠ "java/lang/invoke/MethodHandle" ∧ y.cls ≠ "java/lang/invoke/VarHandle" ∧ (parseMethodDescriptor y.desc).map (fun d => d.parameters.length) = some na) (hna : As.length = na)
    (hR : rm.frames + 1 ≤ R.frames ∧ 8 + (n' + 11) + rm.locals ≤ R.locals) (hz : rm.cells = 0 ∧ rm.slots = 0)
    (hdg : decode b pc = .ok (.invokestatic idx, 3)) (hst : st = As.reverse ++ rest) (hcat : (rest.map fun v => v.category).sum ≤ 8)
    (kk : ∀ H1 locs1, va_P G vwCl (WW N sh ad M') H1 → va_S (AW N ad) s.heap H1 locs1 → W p l e R s m args below meth c H1 locs1 0 0 Q (F0 m (pc + 3) ls rest)) :
    W p l e R s m args below meth c H locs 0 0 Q (F0 m pc ls st) := by
  subst hst
  refine va_callv (va_runS (As := As) (rest := rest) ⟨E.1, E.2.1, E.2.2.1, E.2.2.2.2.2.1, E.2.2.2.2.2.2.1⟩ (hC l) (va_cwS na E.2.2.2.2.2.2.1 hG rfl hz.1 hz.2 hd hR) ⟨PW.blind hEx, PW.at hEx E hP hS⟩ rfl hna hl rfl (lv_room hcat) hdg ⟨Nat.zero_le _, Nat.zero_le _⟩) hS (fun q _ h => h) (fun q h => h) (fun u t H1 locs1 ht hvm hw hB hz1 hk1 hS1 => ?_)
  rw [ht] at hB
  exact kk H1 locs1 hB hS1
/-- a nest mate's private static method -/
theorem x_callNi {y : MethodName} {b' : ByteArray} {n' : Nat} {ty : FieldType} {rm : Room} {As : List Value} {v : Int32} {M' : Mem} {idx na : Nat} {host : String} {st : List Value}
    (E : EV G tys Ex N ad p s m args meth c own b n ret) (hEx : ExOK Ex N ad) (hl : ls.size = n) (hP : va_P G vwCl (WW N sh ad M) H) (hS : va_S (AW N ad) s.heap H locs)
    (hC : CI G tys Ex N sh ad y b' n' ty rm As M v M') (hG : GoodIn TB (.code y b' n' (some ty) :: TB)) (hw : va_Nw (.methodLinkNest own idx y host) s) (hini : Cond.initialized y.cls ∈ TB) (hst0 : Cond.static y ∈ TB)
    (hd : y.cls ≠ "java/lang/invoke/MethodHandle" ∧ y.cls ≠ "java/lang/invoke/VarHandle" ∧ (parseMethodDescriptor y.desc).map (fun d => d.parameters.length) = some na) (hna : As.length = na)
    (hR : rm.frames + 1 ≤ R.frames ∧ 8 + (n' + 11) + rm.locals ≤ R.locals) (hz : rm.cells = 0 ∧ rm.slots = 0)
    (hdg : decode b pc = .ok (.invokestatic idx, 3)) (hst : st = As.reverse ++ rest) (hcat : (rest.map fun v => v.category).sum ≤ 8)
    (kk : ∀ H1 locs1, va_P G vwCl (WW N sh ad M') H1 → va_S (AW N ad) s.heap H1 locs1 → narrow ty (.int v) = .int v → W p l e R s m args below meth c H1 locs1 0 0 Q (F0 m (pc + 3) ls (.int v :: rest))) :
    W p l e R s m args below meth c H locs 0 0 Q (F0 m pc ls st) := by
  subst hst
  refine va_calli (va_runSN (As := As) (rest := rest) ⟨E.1, E.2.1, E.2.2.1, E.2.2.2.2.2.1, E.2.2.2.2.2.2.1⟩ (hC l) ⟨va_cnB na E.2.2.2.2.2.2.1 hG rfl hz.1 hz.2 hw (E.2.2.2.2.2.2.1 _ hini) hd hR, E.2.2.2.2.2.2.1 _ hst0, trivial⟩ ⟨PW.blind hEx, PW.at hEx E hP hS⟩ rfl hna hl rfl (lv_room hcat) hdg ⟨Nat.zero_le _, Nat.zero_le _⟩) hS (fun q _ h => h) (fun q h => h) (fun r u t H1 locs1 ht hvm hw hB hz1 hk1 hS1 => ?_)
  obtain ⟨rfl, hnr⟩ := hw
  rw [ht] at hB
  exact kk H1 locs1 hB hS1 hnr
theorem x_callNv {y : MethodName} {b' : ByteArray} {n' : Nat} {rm : Room} {As : List Value} {M' : Mem} {idx na : Nat} {host : String} {st : List Value}
    (E : EV G tys Ex N ad p s m args meth c own b n ret) (hEx : ExOK Ex N ad) (hl : ls.size = n) (hP : va_P G vwCl (WW N sh ad M) H) (hS : va_S (AW N ad) s.heap H locs)
    (hC : CV G tys Ex N sh ad y b' n' rm As M M') (hG : GoodIn TB (.code y b' n' none :: TB)) (hw : va_Nw (.methodLinkNest own idx y host) s) (hini : Cond.initialized y.cls ∈ TB) (hst0 : Cond.static y ∈ TB)
    (hd : y.cls ≠ "java/lang/invoke/MethodHandle" ∧ y.cls ≠ "java/lang/invoke/VarHandle" ∧ (parseMethodDescriptor y.desc).map (fun d => d.parameters.length) = some na) (hna : As.length = na)
    (hR : rm.frames + 1 ≤ R.frames ∧ 8 + (n' + 11) + rm.locals ≤ R.locals) (hz : rm.cells = 0 ∧ rm.slots = 0)
    (hdg : decode b pc = .ok (.invokestatic idx, 3)) (hst : st = As.reverse ++ rest) (hcat : (rest.map fun v => v.category).sum ≤ 8)
    (kk : ∀ H1 locs1, va_P G vwCl (WW N sh ad M') H1 → va_S (AW N ad) s.heap H1 locs1 → W p l e R s m args below meth c H1 locs1 0 0 Q (F0 m (pc + 3) ls rest)) :
    W p l e R s m args below meth c H locs 0 0 Q (F0 m pc ls st) := by
  subst hst
  refine va_callv (va_runSN (As := As) (rest := rest) ⟨E.1, E.2.1, E.2.2.1, E.2.2.2.2.2.1, E.2.2.2.2.2.2.1⟩ (hC l) ⟨va_cnB na E.2.2.2.2.2.2.1 hG rfl hz.1 hz.2 hw (E.2.2.2.2.2.2.1 _ hini) hd hR, E.2.2.2.2.2.2.1 _ hst0, trivial⟩ ⟨PW.blind hEx, PW.at hEx E hP hS⟩ rfl hna hl rfl (lv_room hcat) hdg ⟨Nat.zero_le _, Nat.zero_le _⟩) hS (fun q _ h => h) (fun q h => h) (fun u t H1 locs1 ht hvm hw hB hz1 hk1 hS1 => ?_)
  rw [ht] at hB
  exact kk H1 locs1 hB hS1
end XR
end
section
theorem q0 : Cond.selects RX0 yX0_matchesDigits yX0_matchesDigits ∈ TB := TBm 0 (by decide +kernel) rfl
theorem q1 : Cond.selects RX0 yX0_digitHere yX0_digitHere ∈ TB := TBm 1 (by decide +kernel) rfl
theorem q2 : Cond.selects RX0 yX0_signHere yX0_signHere ∈ TB := TBm 2 (by decide +kernel) rfl
theorem q3 : Cond.selects RX0 yX0_matchesWord yX0_matchesWord ∈ TB := TBm 3 (by decide +kernel) rfl
theorem q4 : Cond.selects RX0 yX0_matchesLock yX0_matchesLock ∈ TB := TBm 4 (by decide +kernel) rfl
theorem q5 : Cond.selects RX2 yX2_appendNumber yX2_appendNumber ∈ TB := TBm 5 (by decide +kernel) rfl
theorem q6 : Cond.selects RX2 yX2_appendSign yX2_appendSign ∈ TB := TBm 6 (by decide +kernel) rfl
theorem q7 : Cond.selects RX2 yX2_appendArgument yX2_appendArgument ∈ TB := TBm 7 (by decide +kernel) rfl
theorem q8 : Cond.selects RX5 yX5_stepForCode yX5_stepForCode ∈ TB := TBm 8 (by decide +kernel) rfl
theorem q9 : Cond.selects RX5 yX5_lowestUnknownPlace yX5_lowestUnknownPlace ∈ TB := TBm 9 (by decide +kernel) rfl
theorem q10 : Cond.selects RX5 yX5_stepForThing yX5_stepForThing ∈ TB := TBm 10 (by decide +kernel) rfl
theorem q11 : Cond.selects RX5 yX5_stepToHold yX5_stepToHold ∈ TB := TBm 11 (by decide +kernel) rfl
theorem q12 : Cond.selects RX5 yX5_lowestHeld yX5_lowestHeld ∈ TB := TBm 12 (by decide +kernel) rfl
theorem q13 : Cond.selects RX6 yX6_cluesOfReset yX6_cluesOfReset ∈ TB := TBm 13 (by decide +kernel) rfl
theorem q14 : Cond.selects RX7 yX7_slotState yX7_slotState ∈ TB := TBm 14 (by decide +kernel) rfl
theorem q15 : Cond.selects RX5 yX5_follow yX5_follow ∈ TB := TBm 15 (by decide +kernel) rfl
theorem q16 : Cond.selects RX8 yX8_faultOfText yX8_faultOfText ∈ TB := TBm 16 (by decide +kernel) rfl
theorem q17 : Cond.selects RX8 yX8_number yX8_number ∈ TB := TBm 17 (by decide +kernel) rfl
theorem q18 : Cond.selects RX8 yX8_seesDigit yX8_seesDigit ∈ TB := TBm 18 (by decide +kernel) rfl
theorem q19 : Cond.selects RX8 yX8_sees yX8_sees ∈ TB := TBm 19 (by decide +kernel) rfl
theorem q20 : Cond.selects RX8 yX8_takes yX8_takes ∈ TB := TBm 20 (by decide +kernel) rfl
theorem q21 : Cond.selects RX8 yX8_readsLock yX8_readsLock ∈ TB := TBm 21 (by decide +kernel) rfl
theorem q22 : Cond.selects RX8 yX8_noBox yX8_noBox ∈ TB := TBm 22 (by decide +kernel) rfl
theorem q23 : Cond.selects RX8 yX8_noProp yX8_noProp ∈ TB := TBm 23 (by decide +kernel) rfl
theorem q24 : Cond.selects RX8 yX8_plays yX8_plays ∈ TB := TBm 24 (by decide +kernel) rfl
theorem q25 : Cond.selects RX8 yX8_noGroup yX8_noGroup ∈ TB := TBm 25 (by decide +kernel) rfl
theorem q26 : Cond.selects RX8 yX8_removeGroup yX8_removeGroup ∈ TB := TBm 26 (by decide +kernel) rfl
theorem q27 : Cond.selects RX8 yX8_isOpen yX8_isOpen ∈ TB := TBm 27 (by decide +kernel) rfl
theorem q28 : Cond.selects RX8 yX8_pass yX8_pass ∈ TB := TBm 28 (by decide +kernel) rfl
theorem q29 : Cond.selects RX8 yX8_clueAtHand yX8_clueAtHand ∈ TB := TBm 29 (by decide +kernel) rfl
theorem q30 : Cond.selects RX8 yX8_propAtHand yX8_propAtHand ∈ TB := TBm 30 (by decide +kernel) rfl
theorem q31 : Cond.selects RX8 yX8_isHeld yX8_isHeld ∈ TB := TBm 31 (by decide +kernel) rfl
theorem q32 : Cond.selects RX8 yX8_closedFrom yX8_closedFrom ∈ TB := TBm 32 (by decide +kernel) rfl
theorem q33 : Cond.selects RX8 yX8_notAtHome yX8_notAtHome ∈ TB := TBm 33 (by decide +kernel) rfl
theorem q34 : Cond.selects RX8 yX8_openOnes yX8_openOnes ∈ TB := TBm 34 (by decide +kernel) rfl
theorem q35 : Cond.selects RX8 yX8_held yX8_held ∈ TB := TBm 35 (by decide +kernel) rfl
theorem q36 : Cond.selects RX8 yX8_lessHalf yX8_lessHalf ∈ TB := TBm 36 (by decide +kernel) rfl
theorem q37 : Cond.selects RX8 yX8_isOver yX8_isOver ∈ TB := TBm 37 (by decide +kernel) rfl
theorem q38 : Cond.selects RX8 yX8_minutesLeft yX8_minutesLeft ∈ TB := TBm 38 (by decide +kernel) rfl
theorem q39 : Cond.selects RX8 yX8_note yX8_note ∈ TB := TBm 39 (by decide +kernel) rfl
theorem q40 : Cond.selects RX8 yX8_end yX8_end ∈ TB := TBm 40 (by decide +kernel) rfl
theorem q41 : Cond.selects RX8 yX8_boxAtHand yX8_boxAtHand ∈ TB := TBm 41 (by decide +kernel) rfl
theorem q42 : Cond.selects RX8 yX8_closedAround yX8_closedAround ∈ TB := TBm 42 (by decide +kernel) rfl
theorem q43 : Cond.selects RX8 yX8_lets yX8_lets ∈ TB := TBm 43 (by decide +kernel) rfl
theorem q44 : Cond.selects RX8 yX8_noClue yX8_noClue ∈ TB := TBm 44 (by decide +kernel) rfl
theorem q45 : Cond.selects RX8 yX8_readMinutes yX8_readMinutes ∈ TB := TBm 45 (by decide +kernel) rfl
theorem q46 : Cond.selects RX8 yX8_learn yX8_learn ∈ TB := TBm 46 (by decide +kernel) rfl
theorem q47 : Cond.selects RX8 yX8_digitOf yX8_digitOf ∈ TB := TBm 47 (by decide +kernel) rfl
theorem q48 : Cond.selects RX8 yX8_step yX8_step ∈ TB := TBm 48 (by decide +kernel) rfl
theorem q49 : Cond.selects RX8 yX8_stepFor yX8_stepFor ∈ TB := TBm 49 (by decide +kernel) rfl
theorem q50 : Cond.selects RX8 yX8_lowestUnknown yX8_lowestUnknown ∈ TB := TBm 50 (by decide +kernel) rfl
theorem q51 : Cond.selects RX8 yX8_clueFor yX8_clueFor ∈ TB := TBm 51 (by decide +kernel) rfl
theorem q52 : Cond.selects RX8 yX8_stepToHold yX8_stepToHold ∈ TB := TBm 52 (by decide +kernel) rfl
theorem q53 : Cond.selects RX8 yX8_lowestHeld yX8_lowestHeld ∈ TB := TBm 53 (by decide +kernel) rfl
theorem q54 : Cond.selects RX8 yX8_planned yX8_planned ∈ TB := TBm 54 (by decide +kernel) rfl
theorem q55 : Cond.selects RX8 yX8_resetMinutes yX8_resetMinutes ∈ TB := TBm 55 (by decide +kernel) rfl
theorem q56 : Cond.selects RX8 yX8_written yX8_written ∈ TB := TBm 56 (by decide +kernel) rfl
theorem q57 : Cond.selects RX8 yX8_propsIn yX8_propsIn ∈ TB := TBm 57 (by decide +kernel) rfl
theorem q58 : Cond.selects RX8 yX8_boxesIn yX8_boxesIn ∈ TB := TBm 58 (by decide +kernel) rfl
theorem q59 : Cond.selects RX8 yX8_cluesOn yX8_cluesOn ∈ TB := TBm 59 (by decide +kernel) rfl
theorem q60 : Cond.selects RX8 yX8_locksWith yX8_locksWith ∈ TB := TBm 60 (by decide +kernel) rfl
theorem q61 : Cond.selects RX8 yX8_heldSet yX8_heldSet ∈ TB := TBm 61 (by decide +kernel) rfl
theorem q62 : Cond.selects RX8 yX8_startOf yX8_startOf ∈ TB := TBm 62 (by decide +kernel) rfl
theorem q63 : Cond.selects RX8 yX8_faded yX8_faded ∈ TB := TBm 63 (by decide +kernel) rfl
theorem q64 : Cond.selects RX8 yX8_spell yX8_spell ∈ TB := TBm 64 (by decide +kernel) rfl
theorem q65 : Cond.selects RX8 yX8_putNumber yX8_putNumber ∈ TB := TBm 65 (by decide +kernel) rfl
theorem q66 : Cond.selects RX8 yX8_put yX8_put ∈ TB := TBm 66 (by decide +kernel) rfl
theorem q67 : Cond.selects RX8 yX8_behind yX8_behind ∈ TB := TBm 67 (by decide +kernel) rfl
theorem q68 : Cond.selects RX8 yX8_wins yX8_wins ∈ TB := TBm 68 (by decide +kernel) rfl
theorem q69 : Cond.selects RX8 yX8_logLength yX8_logLength ∈ TB := TBm 69 (by decide +kernel) rfl
theorem q70 : Cond.initialized RL ∈ TB := TBm 70 (by decide +kernel) rfl
theorem q71 : Cond.initialized RX7 ∈ TB := TBm 71 (by decide +kernel) rfl
theorem q72 : Cond.initialized RX0 ∈ TB := TBm 72 (by decide +kernel) rfl
theorem q73 : Cond.initialized RX6 ∈ TB := TBm 73 (by decide +kernel) rfl
theorem q74 : Cond.initialized RX5 ∈ TB := TBm 74 (by decide +kernel) rfl
theorem q75 : Cond.initialized RX3 ∈ TB := TBm 75 (by decide +kernel) rfl
theorem q76 : Cond.initialized RX1 ∈ TB := TBm 76 (by decide +kernel) rfl
theorem q77 : Cond.initialized RX4 ∈ TB := TBm 77 (by decide +kernel) rfl
theorem q78 : Cond.initialized RX2 ∈ TB := TBm 78 (by decide +kernel) rfl
theorem q79 : Cond.initialized RX8 ∈ TB := TBm 79 (by decide +kernel) rfl
theorem q80 : Cond.initialized RJ0 ∈ TB := TBm 80 (by decide +kernel) rfl
theorem q81 : Cond.initialized RJ1 ∈ TB := TBm 81 (by decide +kernel) rfl
theorem q82 : Cond.initialized RJ3 ∈ TB := TBm 82 (by decide +kernel) rfl
theorem q83 : Cond.initialized RJ2 ∈ TB := TBm 83 (by decide +kernel) rfl
theorem q84 : Cond.initialized RJ9 ∈ TB := TBm 84 (by decide +kernel) rfl
theorem q85 : Cond.initialized RJ6 ∈ TB := TBm 85 (by decide +kernel) rfl
theorem q86 : Cond.classLink RL (7) RX7 ∈ TB := TBm 86 (by decide +kernel) rfl
theorem q87 : Cond.instantiable RX7 (6) ∈ TB := TBm 87 (by decide +kernel) rfl
theorem q88 : Cond.methodLink RL (9) yX7_init ∈ TB := TBm 88 (by decide +kernel) rfl
theorem q89 : Cond.instanceMethod yX7_init ∈ TB := TBm 89 (by decide +kernel) rfl
theorem q90 : Cond.code yX7_init cX7_init 1 none ∈ TB := TBm 90 (by decide +kernel) rfl
theorem q91 : Cond.methodLink RX7 (1) objectInit ∈ TB := TBm 91 (by decide +kernel) rfl
theorem q92 : Cond.instanceMethod objectInit ∈ TB := TBm 92 (by decide +kernel) rfl
theorem q93 : Cond.code objectInit ⟨#[0xb1]⟩ 1 none ∈ TB := TBm 93 (by decide +kernel) rfl
theorem q94 : Cond.classLink RX7 (7) RX0 ∈ TB := TBm 94 (by decide +kernel) rfl
theorem q95 : Cond.instantiable RX0 (7) ∈ TB := TBm 95 (by decide +kernel) rfl
theorem q97 : Cond.instanceMethod yX0_init ∈ TB := TBm 97 (by decide +kernel) rfl
theorem q98 : Cond.code yX0_init cX0_init 1 none ∈ TB := TBm 98 (by decide +kernel) rfl
theorem q99 : Cond.methodLink RX0 (3) objectInit ∈ TB := TBm 99 (by decide +kernel) rfl
theorem q100 : Cond.fieldLink RX0 (9) RX0 "signs" "[I" ∈ TB := TBm 100 (by decide +kernel) rfl
theorem q101 : Cond.fieldLink RX7 (43) RX0 "signs" "[I" ∈ TB := TBm 101 (by decide +kernel) rfl
theorem q102 : Cond.fieldLink RX7 (40) RX0 "length" "I" ∈ TB := TBm 102 (by decide +kernel) rfl
theorem q103 : Cond.fieldLink RX0 (39) RX0 "length" "I" ∈ TB := TBm 103 (by decide +kernel) rfl
theorem q104 : Cond.fieldLink RX0 (26) RX0 "outer" "I" ∈ TB := TBm 104 (by decide +kernel) rfl
theorem q105 : Cond.fieldLink RX7 (61) RX0 "outer" "I" ∈ TB := TBm 105 (by decide +kernel) rfl
theorem q106 : Cond.fieldLink RX0 (49) RX0 "lock" "I" ∈ TB := TBm 106 (by decide +kernel) rfl
theorem q107 : Cond.fieldLink RX7 (58) RX0 "lock" "I" ∈ TB := TBm 107 (by decide +kernel) rfl
theorem q108 : Cond.fieldLink RX0 (42) RX0 "item" "I" ∈ TB := TBm 108 (by decide +kernel) rfl
theorem q109 : Cond.fieldLink RX7 (68) RX0 "item" "I" ∈ TB := TBm 109 (by decide +kernel) rfl
theorem q110 : Cond.fieldLink RX0 (15) RX0 "position" "I" ∈ TB := TBm 110 (by decide +kernel) rfl
theorem q111 : Cond.fieldLink RX0 (23) RX0 "number" "I" ∈ TB := TBm 111 (by decide +kernel) rfl
theorem q127 : Cond.arrayClass .int ∈ TB := TBm 127 (by decide +kernel) rfl
theorem q128 : Cond.classLink RX7 (16) RX6 ∈ TB := TBm 128 (by decide +kernel) rfl
theorem q129 : Cond.instantiable RX6 (9) ∈ TB := TBm 129 (by decide +kernel) rfl
theorem q131 : Cond.instanceMethod yX6_init ∈ TB := TBm 131 (by decide +kernel) rfl
theorem q132 : Cond.code yX6_init cX6_init 1 none ∈ TB := TBm 132 (by decide +kernel) rfl
theorem q133 : Cond.methodLink RX6 (3) objectInit ∈ TB := TBm 133 (by decide +kernel) rfl
theorem q134 : Cond.classLink RX6 (9) RX5 ∈ TB := TBm 134 (by decide +kernel) rfl
theorem q135 : Cond.instantiable RX5 (16) ∈ TB := TBm 135 (by decide +kernel) rfl
theorem q136 : Cond.methodLink RX6 (11) yX5_init ∈ TB := TBm 136 (by decide +kernel) rfl
theorem q137 : Cond.instanceMethod yX5_init ∈ TB := TBm 137 (by decide +kernel) rfl
theorem q138 : Cond.code yX5_init cX5_init 1 none ∈ TB := TBm 138 (by decide +kernel) rfl
theorem q139 : Cond.methodLink RX5 (3) objectInit ∈ TB := TBm 139 (by decide +kernel) rfl
theorem q141 : Cond.static yX7_put ∈ TB := TBm 141 (by decide +kernel) rfl
theorem q142 : Cond.code yX7_put cX7_put 3 none ∈ TB := TBm 142 (by decide +kernel) rfl
theorem q143 : Cond.fieldLink RX5 (45) RX5 "boxCount" "I" ∈ TB := TBm 143 (by decide +kernel) rfl
theorem q144 : Cond.fieldLink RX7 (84) RX5 "boxCount" "I" ∈ TB := TBm 144 (by decide +kernel) rfl
theorem q145 : Cond.fieldLink RX5 (9) RX5 "outer" "[I" ∈ TB := TBm 145 (by decide +kernel) rfl
theorem q146 : Cond.fieldLink RX7 (301) RX5 "outer" "[I" ∈ TB := TBm 146 (by decide +kernel) rfl
theorem q147 : Cond.fieldLink RX5 (15) RX5 "lock" "[I" ∈ TB := TBm 147 (by decide +kernel) rfl
theorem q148 : Cond.fieldLink RX7 (303) RX5 "lock" "[I" ∈ TB := TBm 148 (by decide +kernel) rfl
theorem q149 : Cond.fieldLink RX5 (18) RX5 "item" "[I" ∈ TB := TBm 149 (by decide +kernel) rfl
theorem q150 : Cond.fieldLink RX7 (208) RX5 "item" "[I" ∈ TB := TBm 150 (by decide +kernel) rfl
theorem q151 : Cond.fieldLink RX5 (21) RX5 "opened" "[I" ∈ TB := TBm 151 (by decide +kernel) rfl
theorem q152 : Cond.fieldLink RX7 (215) RX5 "opened" "[I" ∈ TB := TBm 152 (by decide +kernel) rfl
theorem q153 : Cond.fieldLink RX5 (24) RX5 "known" "[I" ∈ TB := TBm 153 (by decide +kernel) rfl
theorem q154 : Cond.fieldLink RX7 (318) RX5 "known" "[I" ∈ TB := TBm 154 (by decide +kernel) rfl
theorem q155 : Cond.fieldLink RX5 (57) RX5 "propCount" "I" ∈ TB := TBm 155 (by decide +kernel) rfl
theorem q156 : Cond.fieldLink RX7 (91) RX5 "propCount" "I" ∈ TB := TBm 156 (by decide +kernel) rfl
theorem q157 : Cond.fieldLink RX5 (27) RX5 "home" "[I" ∈ TB := TBm 157 (by decide +kernel) rfl
theorem q158 : Cond.fieldLink RX7 (272) RX5 "home" "[I" ∈ TB := TBm 158 (by decide +kernel) rfl
theorem q159 : Cond.fieldLink RX5 (30) RX5 "lies" "[I" ∈ TB := TBm 159 (by decide +kernel) rfl
theorem q160 : Cond.fieldLink RX7 (194) RX5 "lies" "[I" ∈ TB := TBm 160 (by decide +kernel) rfl
theorem q161 : Cond.fieldLink RX5 (60) RX5 "clueCount" "I" ∈ TB := TBm 161 (by decide +kernel) rfl
theorem q162 : Cond.fieldLink RX7 (102) RX5 "clueCount" "I" ∈ TB := TBm 162 (by decide +kernel) rfl
theorem q163 : Cond.fieldLink RX6 (176) RX5 "clueCount" "I" ∈ TB := TBm 163 (by decide +kernel) rfl
theorem q164 : Cond.fieldLink RX5 (33) RX5 "clueProp" "[I" ∈ TB := TBm 164 (by decide +kernel) rfl
theorem q165 : Cond.fieldLink RX7 (327) RX5 "clueProp" "[I" ∈ TB := TBm 165 (by decide +kernel) rfl
theorem q166 : Cond.fieldLink RX5 (36) RX5 "clueBox" "[I" ∈ TB := TBm 166 (by decide +kernel) rfl
theorem q167 : Cond.fieldLink RX7 (330) RX5 "clueBox" "[I" ∈ TB := TBm 167 (by decide +kernel) rfl
theorem q168 : Cond.fieldLink RX5 (39) RX5 "cluePlace" "[I" ∈ TB := TBm 168 (by decide +kernel) rfl
theorem q169 : Cond.fieldLink RX7 (333) RX5 "cluePlace" "[I" ∈ TB := TBm 169 (by decide +kernel) rfl
theorem q170 : Cond.fieldLink RX5 (42) RX5 "ink" "[I" ∈ TB := TBm 170 (by decide +kernel) rfl
theorem q171 : Cond.fieldLink RX6 (169) RX5 "ink" "[I" ∈ TB := TBm 171 (by decide +kernel) rfl
theorem q172 : Cond.fieldLink RX7 (228) RX5 "ink" "[I" ∈ TB := TBm 172 (by decide +kernel) rfl
theorem q173 : Cond.fieldLink RX5 (63) RX5 "exit" "I" ∈ TB := TBm 173 (by decide +kernel) rfl
theorem q174 : Cond.fieldLink RX7 (108) RX5 "exit" "I" ∈ TB := TBm 174 (by decide +kernel) rfl
theorem q175 : Cond.fieldLink RX5 (66) RX5 "hands" "I" ∈ TB := TBm 175 (by decide +kernel) rfl
theorem q176 : Cond.fieldLink RX6 (140) RX5 "hands" "I" ∈ TB := TBm 176 (by decide +kernel) rfl
theorem q177 : Cond.fieldLink RX7 (175) RX5 "hands" "I" ∈ TB := TBm 177 (by decide +kernel) rfl
theorem q211 : Cond.classLink RX6 (18) RX3 ∈ TB := TBm 211 (by decide +kernel) rfl
theorem q212 : Cond.instantiable RX3 (3) ∈ TB := TBm 212 (by decide +kernel) rfl
theorem q214 : Cond.instanceMethod yX3_init ∈ TB := TBm 214 (by decide +kernel) rfl
theorem q215 : Cond.code yX3_init cX3_init 1 none ∈ TB := TBm 215 (by decide +kernel) rfl
theorem q216 : Cond.methodLink RX3 (3) objectInit ∈ TB := TBm 216 (by decide +kernel) rfl
theorem q217 : Cond.fieldLink RX3 (18) RX3 "waiting" "I" ∈ TB := TBm 217 (by decide +kernel) rfl
theorem q218 : Cond.fieldLink RX7 (128) RX3 "waiting" "I" ∈ TB := TBm 218 (by decide +kernel) rfl
theorem q219 : Cond.fieldLink RX3 (9) RX3 "players" "[I" ∈ TB := TBm 219 (by decide +kernel) rfl
theorem q220 : Cond.fieldLink RX6 (93) RX3 "players" "[I" ∈ TB := TBm 220 (by decide +kernel) rfl
theorem q221 : Cond.fieldLink RX7 (345) RX3 "players" "[I" ∈ TB := TBm 221 (by decide +kernel) rfl
theorem q222 : Cond.fieldLink RX3 (15) RX3 "starts" "[I" ∈ TB := TBm 222 (by decide +kernel) rfl
theorem q223 : Cond.fieldLink RX6 (103) RX3 "starts" "[I" ∈ TB := TBm 223 (by decide +kernel) rfl
theorem q224 : Cond.fieldLink RX7 (133) RX3 "starts" "[I" ∈ TB := TBm 224 (by decide +kernel) rfl
theorem q232 : Cond.classLink RX6 (25) RX1 ∈ TB := TBm 232 (by decide +kernel) rfl
theorem q233 : Cond.instantiable RX1 (7) ∈ TB := TBm 233 (by decide +kernel) rfl
theorem q235 : Cond.instanceMethod yX1_init ∈ TB := TBm 235 (by decide +kernel) rfl
theorem q236 : Cond.code yX1_init cX1_init 1 none ∈ TB := TBm 236 (by decide +kernel) rfl
theorem q237 : Cond.methodLink RX1 (1) objectInit ∈ TB := TBm 237 (by decide +kernel) rfl
theorem q238 : Cond.fieldLink RX1 (7) RX1 "running" "Z" ∈ TB := TBm 238 (by decide +kernel) rfl
theorem q239 : Cond.fieldLink RX7 (78) RX1 "running" "Z" ∈ TB := TBm 239 (by decide +kernel) rfl
theorem q240 : Cond.fieldLink RX6 (136) RX1 "running" "Z" ∈ TB := TBm 240 (by decide +kernel) rfl
theorem q241 : Cond.fieldLink RX1 (13) RX1 "players" "I" ∈ TB := TBm 241 (by decide +kernel) rfl
theorem q242 : Cond.fieldLink RX4 (23) RX1 "players" "I" ∈ TB := TBm 242 (by decide +kernel) rfl
theorem q243 : Cond.fieldLink RX6 (101) RX1 "players" "I" ∈ TB := TBm 243 (by decide +kernel) rfl
theorem q244 : Cond.fieldLink RX7 (336) RX1 "players" "I" ∈ TB := TBm 244 (by decide +kernel) rfl
theorem q245 : Cond.fieldLink RX1 (17) RX1 "wanted" "I" ∈ TB := TBm 245 (by decide +kernel) rfl
theorem q246 : Cond.fieldLink RX4 (32) RX1 "wanted" "I" ∈ TB := TBm 246 (by decide +kernel) rfl
theorem q247 : Cond.fieldLink RX6 (106) RX1 "wanted" "I" ∈ TB := TBm 247 (by decide +kernel) rfl
theorem q248 : Cond.fieldLink RX1 (20) RX1 "start" "I" ∈ TB := TBm 248 (by decide +kernel) rfl
theorem q249 : Cond.fieldLink RX4 (35) RX1 "start" "I" ∈ TB := TBm 249 (by decide +kernel) rfl
theorem q250 : Cond.fieldLink RX6 (79) RX1 "start" "I" ∈ TB := TBm 250 (by decide +kernel) rfl
theorem q251 : Cond.fieldLink RX7 (339) RX1 "start" "I" ∈ TB := TBm 251 (by decide +kernel) rfl
theorem q252 : Cond.fieldLink RX1 (23) RX1 "nudgesTold" "I" ∈ TB := TBm 252 (by decide +kernel) rfl
theorem q253 : Cond.fieldLink RX4 (38) RX1 "nudgesTold" "I" ∈ TB := TBm 253 (by decide +kernel) rfl
theorem q254 : Cond.fieldLink RX6 (121) RX1 "nudgesTold" "I" ∈ TB := TBm 254 (by decide +kernel) rfl
theorem q255 : Cond.fieldLink RX7 (247) RX1 "nudgesTold" "I" ∈ TB := TBm 255 (by decide +kernel) rfl
theorem q256 : Cond.fieldLink RX1 (26) RX1 "wrongCodes" "I" ∈ TB := TBm 256 (by decide +kernel) rfl
theorem q257 : Cond.fieldLink RX6 (124) RX1 "wrongCodes" "I" ∈ TB := TBm 257 (by decide +kernel) rfl
theorem q258 : Cond.fieldLink RX7 (212) RX1 "wrongCodes" "I" ∈ TB := TBm 258 (by decide +kernel) rfl
theorem q259 : Cond.fieldLink RX1 (29) RX1 "differences" "I" ∈ TB := TBm 259 (by decide +kernel) rfl
theorem q260 : Cond.fieldLink RX4 (41) RX1 "differences" "I" ∈ TB := TBm 260 (by decide +kernel) rfl
theorem q261 : Cond.fieldLink RX6 (133) RX1 "differences" "I" ∈ TB := TBm 261 (by decide +kernel) rfl
theorem q277 : Cond.classLink RX6 (32) RX4 ∈ TB := TBm 277 (by decide +kernel) rfl
theorem q278 : Cond.instantiable RX4 (2) ∈ TB := TBm 278 (by decide +kernel) rfl
theorem q280 : Cond.instanceMethod yX4_init ∈ TB := TBm 280 (by decide +kernel) rfl
theorem q281 : Cond.code yX4_init cX4_init 1 none ∈ TB := TBm 281 (by decide +kernel) rfl
theorem q282 : Cond.methodLink RX4 (3) objectInit ∈ TB := TBm 282 (by decide +kernel) rfl
theorem q283 : Cond.fieldLink RX4 (15) RX4 "count" "I" ∈ TB := TBm 283 (by decide +kernel) rfl
theorem q284 : Cond.fieldLink RX7 (158) RX4 "count" "I" ∈ TB := TBm 284 (by decide +kernel) rfl
theorem q285 : Cond.fieldLink RX4 (9) RX4 "parts" "[I" ∈ TB := TBm 285 (by decide +kernel) rfl
theorem q286 : Cond.fieldLink RX7 (350) RX4 "parts" "[I" ∈ TB := TBm 286 (by decide +kernel) rfl
theorem q292 : Cond.classLink RX6 (39) RX2 ∈ TB := TBm 292 (by decide +kernel) rfl
theorem q293 : Cond.instantiable RX2 (2) ∈ TB := TBm 293 (by decide +kernel) rfl
theorem q295 : Cond.instanceMethod yX2_init ∈ TB := TBm 295 (by decide +kernel) rfl
theorem q296 : Cond.code yX2_init cX2_init 1 none ∈ TB := TBm 296 (by decide +kernel) rfl
theorem q297 : Cond.methodLink RX2 (3) objectInit ∈ TB := TBm 297 (by decide +kernel) rfl
theorem q298 : Cond.fieldLink RX2 (15) RX2 "length" "I" ∈ TB := TBm 298 (by decide +kernel) rfl
theorem q299 : Cond.fieldLink RX6 (143) RX2 "length" "I" ∈ TB := TBm 299 (by decide +kernel) rfl
theorem q300 : Cond.fieldLink RX7 (372) RX2 "length" "I" ∈ TB := TBm 300 (by decide +kernel) rfl
theorem q301 : Cond.fieldLink RX2 (9) RX2 "signs" "[I" ∈ TB := TBm 301 (by decide +kernel) rfl
theorem q302 : Cond.fieldLink RX7 (375) RX2 "signs" "[I" ∈ TB := TBm 302 (by decide +kernel) rfl
theorem q308 : Cond.fieldLink RX6 (12) RX6 "room" "LResetRooms$Room;" ∈ TB := TBm 308 (by decide +kernel) rfl
theorem q309 : Cond.fieldLink RX7 (51) RX6 "room" "LResetRooms$Room;" ∈ TB := TBm 309 (by decide +kernel) rfl
theorem q310 : Cond.fieldLink RX6 (21) RX6 "queue" "LResetRooms$Queue;" ∈ TB := TBm 310 (by decide +kernel) rfl
theorem q311 : Cond.fieldLink RX7 (120) RX6 "queue" "LResetRooms$Queue;" ∈ TB := TBm 311 (by decide +kernel) rfl
theorem q312 : Cond.fieldLink RX6 (28) RX6 "game" "LResetRooms$Game;" ∈ TB := TBm 312 (by decide +kernel) rfl
theorem q313 : Cond.fieldLink RX7 (74) RX6 "game" "LResetRooms$Game;" ∈ TB := TBm 313 (by decide +kernel) rfl
theorem q314 : Cond.fieldLink RX6 (35) RX6 "results" "LResetRooms$Results;" ∈ TB := TBm 314 (by decide +kernel) rfl
theorem q315 : Cond.fieldLink RX7 (154) RX6 "results" "LResetRooms$Results;" ∈ TB := TBm 315 (by decide +kernel) rfl
theorem q316 : Cond.fieldLink RX6 (42) RX6 "log" "LResetRooms$Log;" ∈ TB := TBm 316 (by decide +kernel) rfl
theorem q317 : Cond.fieldLink RX7 (368) RX6 "log" "LResetRooms$Log;" ∈ TB := TBm 317 (by decide +kernel) rfl
theorem q318 : Cond.fieldLink RX6 (69) RX6 "clock" "I" ∈ TB := TBm 318 (by decide +kernel) rfl
theorem q319 : Cond.fieldLink RX7 (269) RX6 "clock" "I" ∈ TB := TBm 319 (by decide +kernel) rfl
theorem q320 : Cond.fieldLink RX6 (72) RX6 "paint" "I" ∈ TB := TBm 320 (by decide +kernel) rfl
theorem q321 : Cond.fieldLink RX7 (117) RX6 "paint" "I" ∈ TB := TBm 321 (by decide +kernel) rfl
theorem q322 : Cond.fieldLink RX6 (46) RX6 "limit" "I" ∈ TB := TBm 322 (by decide +kernel) rfl
theorem q323 : Cond.fieldLink RX7 (111) RX6 "limit" "I" ∈ TB := TBm 323 (by decide +kernel) rfl
theorem q324 : Cond.fieldLink RX6 (50) RX6 "nudges" "I" ∈ TB := TBm 324 (by decide +kernel) rfl
theorem q325 : Cond.fieldLink RX7 (114) RX6 "nudges" "I" ∈ TB := TBm 325 (by decide +kernel) rfl
theorem q345 : Cond.classLink RX7 (29) RX5 ∈ TB := TBm 345 (by decide +kernel) rfl
theorem q346 : Cond.methodLink RX7 (31) yX5_init ∈ TB := TBm 346 (by decide +kernel) rfl
theorem q347 : Cond.fieldLink RX7 (10) RX7 "text" "LResetRooms$BoxText;" ∈ TB := TBm 347 (by decide +kernel) rfl
theorem q348 : Cond.fieldLink RX7 (19) RX7 "now" "LResetRooms$State;" ∈ TB := TBm 348 (by decide +kernel) rfl
theorem q349 : Cond.fieldLink RX7 (23) RX7 "firstSlot" "LResetRooms$State;" ∈ TB := TBm 349 (by decide +kernel) rfl
theorem q350 : Cond.fieldLink RX7 (26) RX7 "secondSlot" "LResetRooms$State;" ∈ TB := TBm 350 (by decide +kernel) rfl
theorem q351 : Cond.fieldLink RX7 (32) RX7 "planned" "LResetRooms$Room;" ∈ TB := TBm 351 (by decide +kernel) rfl
theorem q352 : Cond.fieldLink RX7 (36) RX7 "keptSlots" "I" ∈ TB := TBm 352 (by decide +kernel) rfl
theorem q366 : Cond.methodLink RL (13) yX7_type ∈ TB := TBm 366 (by decide +kernel) rfl
theorem q367 : Cond.instanceMethod yX7_type ∈ TB := TBm 367 (by decide +kernel) rfl
theorem q368 : Cond.selects RX7 yX7_type yX7_type ∈ TB := TBm 368 (by decide +kernel) rfl
theorem q369 : Cond.code yX7_type cX7_type 2 (some .int) ∈ TB := TBm 369 (by decide +kernel) rfl
theorem q370 : Cond.methodLink RX7 (47) yX7_put ∈ TB := TBm 370 (by decide +kernel) rfl
theorem q371 : Cond.methodLink RL (18) yX7_clearText ∈ TB := TBm 371 (by decide +kernel) rfl
theorem q372 : Cond.instanceMethod yX7_clearText ∈ TB := TBm 372 (by decide +kernel) rfl
theorem q373 : Cond.selects RX7 yX7_clearText yX7_clearText ∈ TB := TBm 373 (by decide +kernel) rfl
theorem q374 : Cond.code yX7_clearText cX7_clearText 2 (some .int) ∈ TB := TBm 374 (by decide +kernel) rfl
theorem q375 : Cond.methodLink RL (23) yX7_addBox ∈ TB := TBm 375 (by decide +kernel) rfl
theorem q376 : Cond.instanceMethod yX7_addBox ∈ TB := TBm 376 (by decide +kernel) rfl
theorem q377 : Cond.selects RX7 yX7_addBox yX7_addBox ∈ TB := TBm 377 (by decide +kernel) rfl
theorem q378 : Cond.code yX7_addBox cX7_addBox 4 (some .int) ∈ TB := TBm 378 (by decide +kernel) rfl
theorem q379 : Cond.methodLink RX7 (54) yX0_findFault ∈ TB := TBm 379 (by decide +kernel) rfl
theorem q380 : Cond.instanceMethod yX0_findFault ∈ TB := TBm 380 (by decide +kernel) rfl
theorem q381 : Cond.selects RX0 yX0_findFault yX0_findFault ∈ TB := TBm 381 (by decide +kernel) rfl
theorem q382 : Cond.code yX0_findFault cX0_findFault 1 (some .int) ∈ TB := TBm 382 (by decide +kernel) rfl
theorem q383 : Cond.methodLink RX0 (19) yX0_matchesDigits ∈ TB := TBm 383 (by decide +kernel) rfl
theorem q385 : Cond.instanceMethod yX0_matchesDigits ∈ TB := TBm 385 (by decide +kernel) rfl
theorem q386 : Cond.code yX0_matchesDigits cX0_matchesDigits 4 (some .boolean) ∈ TB := TBm 386 (by decide +kernel) rfl
theorem q387 : Cond.methodLink RX0 (60) yX0_digitHere ∈ TB := TBm 387 (by decide +kernel) rfl
theorem q389 : Cond.instanceMethod yX0_digitHere ∈ TB := TBm 389 (by decide +kernel) rfl
theorem q390 : Cond.code yX0_digitHere cX0_digitHere 1 (some .boolean) ∈ TB := TBm 390 (by decide +kernel) rfl
theorem q391 : Cond.methodLink RX0 (45) yX0_signHere ∈ TB := TBm 391 (by decide +kernel) rfl
theorem q393 : Cond.instanceMethod yX0_signHere ∈ TB := TBm 393 (by decide +kernel) rfl
theorem q394 : Cond.code yX0_signHere cX0_signHere 1 (some .int) ∈ TB := TBm 394 (by decide +kernel) rfl
theorem q396 : Cond.static yX7_at ∈ TB := TBm 396 (by decide +kernel) rfl
theorem q397 : Cond.code yX7_at cX7_at 2 (some .int) ∈ TB := TBm 397 (by decide +kernel) rfl
theorem q399 : Cond.methodLink RX0 (31) yX0_matchesWord ∈ TB := TBm 399 (by decide +kernel) rfl
theorem q401 : Cond.instanceMethod yX0_matchesWord ∈ TB := TBm 401 (by decide +kernel) rfl
theorem q402 : Cond.code yX0_matchesWord cX0_matchesWord 3 (some .boolean) ∈ TB := TBm 402 (by decide +kernel) rfl
theorem q403 : Cond.methodLink RX0 (63) yJ0_length_8abf5 ∈ TB := TBm 403 (by decide +kernel) rfl
theorem q404 : Cond.instanceMethod yJ0_length_8abf5 ∈ TB := TBm 404 (by decide +kernel) rfl
theorem q405 : Cond.selects RJ0 yJ0_length_8abf5 yJ0_length_8abf5 ∈ TB := TBm 405 (by decide +kernel) rfl
theorem q406 : Cond.code yJ0_length_8abf5 cJ0_length_8abf5 1 (some .int) ∈ TB := TBm 406 (by decide +kernel) rfl
theorem q407 : Cond.methodLink RJ0 (335) yJ0_coder_7d493 ∈ TB := TBm 407 (by decide +kernel) rfl
theorem q408 : Cond.instanceMethod yJ0_coder_7d493 ∈ TB := TBm 408 (by decide +kernel) rfl
theorem q409 : Cond.selects RJ0 yJ0_coder_7d493 yJ0_coder_7d493 ∈ TB := TBm 409 (by decide +kernel) rfl
theorem q410 : Cond.code yJ0_coder_7d493 cJ0_coder_7d493 1 (some .byte) ∈ TB := TBm 410 (by decide +kernel) rfl
theorem q411 : Cond.fieldLink RJ0 (38) RJ0 "COMPACT_STRINGS" "Z" ∈ TB := TBm 411 (by decide +kernel) rfl
theorem q413 : Cond.methodLink RX0 (67) yJ0_charAt_5068e ∈ TB := TBm 413 (by decide +kernel) rfl
theorem q414 : Cond.instanceMethod yJ0_charAt_5068e ∈ TB := TBm 414 (by decide +kernel) rfl
theorem q415 : Cond.selects RJ0 yJ0_charAt_5068e yJ0_charAt_5068e ∈ TB := TBm 415 (by decide +kernel) rfl
theorem q416 : Cond.code yJ0_charAt_5068e cJ0_charAt_5068e 2 (some .char) ∈ TB := TBm 416 (by decide +kernel) rfl
theorem q417 : Cond.methodLink RJ0 (492) yJ0_isLatin1_aae02 ∈ TB := TBm 417 (by decide +kernel) rfl
theorem q418 : Cond.instanceMethod yJ0_isLatin1_aae02 ∈ TB := TBm 418 (by decide +kernel) rfl
theorem q419 : Cond.selects RJ0 yJ0_isLatin1_aae02 yJ0_isLatin1_aae02 ∈ TB := TBm 419 (by decide +kernel) rfl
theorem q420 : Cond.code yJ0_isLatin1_aae02 cJ0_isLatin1_aae02 1 (some .boolean) ∈ TB := TBm 420 (by decide +kernel) rfl
theorem q421 : Cond.methodLink RJ0 (495) yJ1_charAt_3b067 ∈ TB := TBm 421 (by decide +kernel) rfl
theorem q422 : Cond.static yJ1_charAt_3b067 ∈ TB := TBm 422 (by decide +kernel) rfl
theorem q423 : Cond.code yJ1_charAt_3b067 cJ1_charAt_3b067 2 (some .char) ∈ TB := TBm 423 (by decide +kernel) rfl
theorem q424 : Cond.methodLink RJ1 (9) yJ0_checkIndex_df160 ∈ TB := TBm 424 (by decide +kernel) rfl
theorem q425 : Cond.static yJ0_checkIndex_df160 ∈ TB := TBm 425 (by decide +kernel) rfl
theorem q426 : Cond.code yJ0_checkIndex_df160 cJ0_checkIndex_df160 2 none ∈ TB := TBm 426 (by decide +kernel) rfl
theorem q427 : Cond.fieldLink RJ0 (1053) RJ3 "SIOOBE_FORMATTER" "Ljava/util/function/BiFunction;" ∈ TB := TBm 427 (by decide +kernel) rfl
theorem q429 : Cond.methodLink RJ0 (1059) yJ3_checkIndex_8e157 ∈ TB := TBm 429 (by decide +kernel) rfl
theorem q430 : Cond.static yJ3_checkIndex_8e157 ∈ TB := TBm 430 (by decide +kernel) rfl
theorem q431 : Cond.code yJ3_checkIndex_8e157 cJ3_checkIndex_8e157 3 (some .int) ∈ TB := TBm 431 (by decide +kernel) rfl
theorem q432 : Cond.methodLink RJ0 (498) yJ2_charAt_3b067 ∈ TB := TBm 432 (by decide +kernel) rfl
theorem q433 : Cond.static yJ2_charAt_3b067 ∈ TB := TBm 433 (by decide +kernel) rfl
theorem q434 : Cond.code yJ2_charAt_3b067 cJ2_charAt_3b067 2 (some .char) ∈ TB := TBm 434 (by decide +kernel) rfl
theorem q435 : Cond.methodLink RJ2 (67) yJ2_checkIndex_2214a ∈ TB := TBm 435 (by decide +kernel) rfl
theorem q436 : Cond.static yJ2_checkIndex_2214a ∈ TB := TBm 436 (by decide +kernel) rfl
theorem q437 : Cond.code yJ2_checkIndex_2214a cJ2_checkIndex_2214a 2 none ∈ TB := TBm 437 (by decide +kernel) rfl
theorem q438 : Cond.methodLink RJ2 (48) yJ2_length_9d52b ∈ TB := TBm 438 (by decide +kernel) rfl
theorem q439 : Cond.static yJ2_length_9d52b ∈ TB := TBm 439 (by decide +kernel) rfl
theorem q440 : Cond.code yJ2_length_9d52b cJ2_length_9d52b 1 (some .int) ∈ TB := TBm 440 (by decide +kernel) rfl
theorem q441 : Cond.methodLink RJ2 (414) yJ0_checkIndex_df160 ∈ TB := TBm 441 (by decide +kernel) rfl
theorem q442 : Cond.methodLink RJ2 (71) yJ2_getChar_3b067 ∈ TB := TBm 442 (by decide +kernel) rfl
theorem q443 : Cond.static yJ2_getChar_3b067 ∈ TB := TBm 443 (by decide +kernel) rfl
theorem q444 : Cond.code yJ2_getChar_3b067 cJ2_getChar_3b067 2 (some .char) ∈ TB := TBm 444 (by decide +kernel) rfl
theorem q445 : Cond.fieldLink RJ2 (44) RJ2 "$assertionsDisabled" "Z" ∈ TB := TBm 445 (by decide +kernel) rfl
theorem q447 : Cond.fieldLink RJ2 (59) RJ2 "HI_BYTE_SHIFT" "I" ∈ TB := TBm 447 (by decide +kernel) rfl
theorem q449 : Cond.fieldLink RJ2 (63) RJ2 "LO_BYTE_SHIFT" "I" ∈ TB := TBm 449 (by decide +kernel) rfl
theorem q451 : Cond.methodLink RX0 (35) yX0_matchesLock ∈ TB := TBm 451 (by decide +kernel) rfl
theorem q453 : Cond.instanceMethod yX0_matchesLock ∈ TB := TBm 453 (by decide +kernel) rfl
theorem q454 : Cond.code yX0_matchesLock cX0_matchesLock 1 (some .boolean) ∈ TB := TBm 454 (by decide +kernel) rfl
theorem q459 : Cond.methodLink RX7 (64) yX5_hasBox ∈ TB := TBm 459 (by decide +kernel) rfl
theorem q460 : Cond.instanceMethod yX5_hasBox ∈ TB := TBm 460 (by decide +kernel) rfl
theorem q461 : Cond.selects RX5 yX5_hasBox yX5_hasBox ∈ TB := TBm 461 (by decide +kernel) rfl
theorem q462 : Cond.code yX5_hasBox cX5_hasBox 2 (some .boolean) ∈ TB := TBm 462 (by decide +kernel) rfl
theorem q463 : Cond.methodLink RX7 (71) yX5_hasProp ∈ TB := TBm 463 (by decide +kernel) rfl
theorem q464 : Cond.instanceMethod yX5_hasProp ∈ TB := TBm 464 (by decide +kernel) rfl
theorem q465 : Cond.selects RX5 yX5_hasProp yX5_hasProp ∈ TB := TBm 465 (by decide +kernel) rfl
theorem q466 : Cond.code yX5_hasProp cX5_hasProp 2 (some .boolean) ∈ TB := TBm 466 (by decide +kernel) rfl
theorem q467 : Cond.methodLink RX7 (87) yX5_appendBox ∈ TB := TBm 467 (by decide +kernel) rfl
theorem q468 : Cond.instanceMethod yX5_appendBox ∈ TB := TBm 468 (by decide +kernel) rfl
theorem q469 : Cond.selects RX5 yX5_appendBox yX5_appendBox ∈ TB := TBm 469 (by decide +kernel) rfl
theorem q470 : Cond.code yX5_appendBox cX5_appendBox 5 (some .int) ∈ TB := TBm 470 (by decide +kernel) rfl
theorem q471 : Cond.arrayClass .byte ∈ TB := TBm 471 (by decide +kernel) rfl
theorem q472 : Cond.methodLink RL (27) yX7_addProp ∈ TB := TBm 472 (by decide +kernel) rfl
theorem q473 : Cond.instanceMethod yX7_addProp ∈ TB := TBm 473 (by decide +kernel) rfl
theorem q474 : Cond.selects RX7 yX7_addProp yX7_addProp ∈ TB := TBm 474 (by decide +kernel) rfl
theorem q475 : Cond.code yX7_addProp cX7_addProp 2 (some .int) ∈ TB := TBm 475 (by decide +kernel) rfl
theorem q476 : Cond.methodLink RX7 (94) yX5_appendProp ∈ TB := TBm 476 (by decide +kernel) rfl
theorem q477 : Cond.instanceMethod yX5_appendProp ∈ TB := TBm 477 (by decide +kernel) rfl
theorem q478 : Cond.selects RX5 yX5_appendProp yX5_appendProp ∈ TB := TBm 478 (by decide +kernel) rfl
theorem q479 : Cond.code yX5_appendProp cX5_appendProp 3 (some .int) ∈ TB := TBm 479 (by decide +kernel) rfl
theorem q480 : Cond.methodLink RL (32) yX7_addClue ∈ TB := TBm 480 (by decide +kernel) rfl
theorem q481 : Cond.instanceMethod yX7_addClue ∈ TB := TBm 481 (by decide +kernel) rfl
theorem q482 : Cond.selects RX7 yX7_addClue yX7_addClue ∈ TB := TBm 482 (by decide +kernel) rfl
theorem q483 : Cond.code yX7_addClue cX7_addClue 5 (some .int) ∈ TB := TBm 483 (by decide +kernel) rfl
theorem q484 : Cond.methodLink RX7 (98) yX5_hasLock ∈ TB := TBm 484 (by decide +kernel) rfl
theorem q485 : Cond.instanceMethod yX5_hasLock ∈ TB := TBm 485 (by decide +kernel) rfl
theorem q486 : Cond.selects RX5 yX5_hasLock yX5_hasLock ∈ TB := TBm 486 (by decide +kernel) rfl
theorem q487 : Cond.code yX5_hasLock cX5_hasLock 3 (some .boolean) ∈ TB := TBm 487 (by decide +kernel) rfl
theorem q489 : Cond.methodLink RX7 (105) yX5_appendClue ∈ TB := TBm 489 (by decide +kernel) rfl
theorem q490 : Cond.instanceMethod yX5_appendClue ∈ TB := TBm 490 (by decide +kernel) rfl
theorem q491 : Cond.selects RX5 yX5_appendClue yX5_appendClue ∈ TB := TBm 491 (by decide +kernel) rfl
theorem q492 : Cond.code yX5_appendClue cX5_appendClue 5 (some .int) ∈ TB := TBm 492 (by decide +kernel) rfl
theorem q493 : Cond.methodLink RL (37) yX7_setExit ∈ TB := TBm 493 (by decide +kernel) rfl
theorem q494 : Cond.instanceMethod yX7_setExit ∈ TB := TBm 494 (by decide +kernel) rfl
theorem q495 : Cond.selects RX7 yX7_setExit yX7_setExit ∈ TB := TBm 495 (by decide +kernel) rfl
theorem q496 : Cond.code yX7_setExit cX7_setExit 3 (some .int) ∈ TB := TBm 496 (by decide +kernel) rfl
theorem q497 : Cond.methodLink RL (41) yX7_setLimits ∈ TB := TBm 497 (by decide +kernel) rfl
theorem q498 : Cond.instanceMethod yX7_setLimits ∈ TB := TBm 498 (by decide +kernel) rfl
theorem q499 : Cond.selects RX7 yX7_setLimits yX7_setLimits ∈ TB := TBm 499 (by decide +kernel) rfl
theorem q500 : Cond.code yX7_setLimits cX7_setLimits 4 (some .int) ∈ TB := TBm 500 (by decide +kernel) rfl
theorem q501 : Cond.methodLink RL (46) yX7_addPaint ∈ TB := TBm 501 (by decide +kernel) rfl
theorem q502 : Cond.instanceMethod yX7_addPaint ∈ TB := TBm 502 (by decide +kernel) rfl
theorem q503 : Cond.selects RX7 yX7_addPaint yX7_addPaint ∈ TB := TBm 503 (by decide +kernel) rfl
theorem q504 : Cond.code yX7_addPaint cX7_addPaint 2 (some .int) ∈ TB := TBm 504 (by decide +kernel) rfl
theorem q505 : Cond.methodLink RL (50) yX7_book ∈ TB := TBm 505 (by decide +kernel) rfl
theorem q506 : Cond.instanceMethod yX7_book ∈ TB := TBm 506 (by decide +kernel) rfl
theorem q507 : Cond.selects RX7 yX7_book yX7_book ∈ TB := TBm 507 (by decide +kernel) rfl
theorem q508 : Cond.code yX7_book cX7_book 4 (some .int) ∈ TB := TBm 508 (by decide +kernel) rfl
theorem q509 : Cond.methodLink RX7 (124) yX7_isGroupSize ∈ TB := TBm 509 (by decide +kernel) rfl
theorem q510 : Cond.static yX7_isGroupSize ∈ TB := TBm 510 (by decide +kernel) rfl
theorem q511 : Cond.code yX7_isGroupSize cX7_isGroupSize 1 (some .boolean) ∈ TB := TBm 511 (by decide +kernel) rfl
theorem q512 : Cond.constant RX7 (127) (100000) ∈ TB := TBm 512 (by decide +kernel) rfl
theorem q513 : Cond.methodLink RX7 (136) yX7_at ∈ TB := TBm 513 (by decide +kernel) rfl
theorem q514 : Cond.methodLink RX7 (140) yX3_append ∈ TB := TBm 514 (by decide +kernel) rfl
theorem q515 : Cond.instanceMethod yX3_append ∈ TB := TBm 515 (by decide +kernel) rfl
theorem q516 : Cond.selects RX3 yX3_append yX3_append ∈ TB := TBm 516 (by decide +kernel) rfl
theorem q517 : Cond.code yX3_append cX3_append 3 none ∈ TB := TBm 517 (by decide +kernel) rfl
theorem q519 : Cond.methodLink RL (54) yX7_cancel ∈ TB := TBm 519 (by decide +kernel) rfl
theorem q520 : Cond.instanceMethod yX7_cancel ∈ TB := TBm 520 (by decide +kernel) rfl
theorem q521 : Cond.selects RX7 yX7_cancel yX7_cancel ∈ TB := TBm 521 (by decide +kernel) rfl
theorem q522 : Cond.code yX7_cancel cX7_cancel 2 (some .int) ∈ TB := TBm 522 (by decide +kernel) rfl
theorem q523 : Cond.methodLink RX7 (144) yX3_hasGroup ∈ TB := TBm 523 (by decide +kernel) rfl
theorem q524 : Cond.instanceMethod yX3_hasGroup ∈ TB := TBm 524 (by decide +kernel) rfl
theorem q525 : Cond.selects RX3 yX3_hasGroup yX3_hasGroup ∈ TB := TBm 525 (by decide +kernel) rfl
theorem q526 : Cond.code yX3_hasGroup cX3_hasGroup 2 (some .boolean) ∈ TB := TBm 526 (by decide +kernel) rfl
theorem q527 : Cond.methodLink RX7 (147) yX3_remove ∈ TB := TBm 527 (by decide +kernel) rfl
theorem q528 : Cond.instanceMethod yX3_remove ∈ TB := TBm 528 (by decide +kernel) rfl
theorem q529 : Cond.selects RX3 yX3_remove yX3_remove ∈ TB := TBm 529 (by decide +kernel) rfl
theorem q530 : Cond.code yX3_remove cX3_remove 3 none ∈ TB := TBm 530 (by decide +kernel) rfl
theorem q532 : Cond.methodLink RL (58) yX7_startGame ∈ TB := TBm 532 (by decide +kernel) rfl
theorem q533 : Cond.instanceMethod yX7_startGame ∈ TB := TBm 533 (by decide +kernel) rfl
theorem q534 : Cond.selects RX7 yX7_startGame yX7_startGame ∈ TB := TBm 534 (by decide +kernel) rfl
theorem q535 : Cond.code yX7_startGame cX7_startGame 2 (some .int) ∈ TB := TBm 535 (by decide +kernel) rfl
theorem q536 : Cond.methodLink RX7 (151) yX5_isOpen ∈ TB := TBm 536 (by decide +kernel) rfl
theorem q537 : Cond.instanceMethod yX5_isOpen ∈ TB := TBm 537 (by decide +kernel) rfl
theorem q538 : Cond.selects RX5 yX5_isOpen yX5_isOpen ∈ TB := TBm 538 (by decide +kernel) rfl
theorem q539 : Cond.code yX5_isOpen cX5_isOpen 2 (some .boolean) ∈ TB := TBm 539 (by decide +kernel) rfl
theorem q540 : Cond.methodLink RX7 (163) yX6_beginGame ∈ TB := TBm 540 (by decide +kernel) rfl
theorem q541 : Cond.instanceMethod yX6_beginGame ∈ TB := TBm 541 (by decide +kernel) rfl
theorem q542 : Cond.selects RX6 yX6_beginGame yX6_beginGame ∈ TB := TBm 542 (by decide +kernel) rfl
theorem q543 : Cond.code yX6_beginGame cX6_beginGame 1 (some .int) ∈ TB := TBm 543 (by decide +kernel) rfl
theorem q545 : Cond.methodLink RX6 (109) yX3_remove ∈ TB := TBm 545 (by decide +kernel) rfl
theorem q546 : Cond.methodLink RX6 (112) yJ9_max_7cf53 ∈ TB := TBm 546 (by decide +kernel) rfl
theorem q547 : Cond.static yJ9_max_7cf53 ∈ TB := TBm 547 (by decide +kernel) rfl
theorem q548 : Cond.code yJ9_max_7cf53 cJ9_max_7cf53 2 (some .int) ∈ TB := TBm 548 (by decide +kernel) rfl
theorem q549 : Cond.methodLink RX6 (118) yX6_pass ∈ TB := TBm 549 (by decide +kernel) rfl
theorem q550 : Cond.instanceMethod yX6_pass ∈ TB := TBm 550 (by decide +kernel) rfl
theorem q551 : Cond.selects RX6 yX6_pass yX6_pass ∈ TB := TBm 551 (by decide +kernel) rfl
theorem q552 : Cond.code yX6_pass cX6_pass 3 none ∈ TB := TBm 552 (by decide +kernel) rfl
theorem q553 : Cond.methodLink RX6 (75) yX5_fade ∈ TB := TBm 553 (by decide +kernel) rfl
theorem q554 : Cond.instanceMethod yX5_fade ∈ TB := TBm 554 (by decide +kernel) rfl
theorem q555 : Cond.selects RX5 yX5_fade yX5_fade ∈ TB := TBm 555 (by decide +kernel) rfl
theorem q556 : Cond.code yX5_fade cX5_fade 3 none ∈ TB := TBm 556 (by decide +kernel) rfl
theorem q557 : Cond.methodLink RX5 (97) yX5_clueAtHand ∈ TB := TBm 557 (by decide +kernel) rfl
theorem q558 : Cond.instanceMethod yX5_clueAtHand ∈ TB := TBm 558 (by decide +kernel) rfl
theorem q559 : Cond.selects RX5 yX5_clueAtHand yX5_clueAtHand ∈ TB := TBm 559 (by decide +kernel) rfl
theorem q560 : Cond.code yX5_clueAtHand cX5_clueAtHand 2 (some .boolean) ∈ TB := TBm 560 (by decide +kernel) rfl
theorem q561 : Cond.methodLink RX5 (73) yX5_outermostClosed ∈ TB := TBm 561 (by decide +kernel) rfl
theorem q562 : Cond.instanceMethod yX5_outermostClosed ∈ TB := TBm 562 (by decide +kernel) rfl
theorem q563 : Cond.selects RX5 yX5_outermostClosed yX5_outermostClosed ∈ TB := TBm 563 (by decide +kernel) rfl
theorem q564 : Cond.code yX5_outermostClosed cX5_outermostClosed 5 (some .int) ∈ TB := TBm 564 (by decide +kernel) rfl
theorem q565 : Cond.methodLink RX5 (100) yJ9_max_7cf53 ∈ TB := TBm 565 (by decide +kernel) rfl
theorem q566 : Cond.methodLink RX6 (127) yX5_propsAway ∈ TB := TBm 566 (by decide +kernel) rfl
theorem q567 : Cond.instanceMethod yX5_propsAway ∈ TB := TBm 567 (by decide +kernel) rfl
theorem q568 : Cond.selects RX5 yX5_propsAway yX5_propsAway ∈ TB := TBm 568 (by decide +kernel) rfl
theorem q569 : Cond.code yX5_propsAway cX5_propsAway 3 (some .int) ∈ TB := TBm 569 (by decide +kernel) rfl
theorem q570 : Cond.methodLink RX6 (130) yX5_openBoxes ∈ TB := TBm 570 (by decide +kernel) rfl
theorem q571 : Cond.instanceMethod yX5_openBoxes ∈ TB := TBm 571 (by decide +kernel) rfl
theorem q572 : Cond.selects RX5 yX5_openBoxes yX5_openBoxes ∈ TB := TBm 572 (by decide +kernel) rfl
theorem q573 : Cond.code yX5_openBoxes cX5_openBoxes 3 (some .int) ∈ TB := TBm 573 (by decide +kernel) rfl
theorem q574 : Cond.methodLink RX5 (77) yX5_isOpen ∈ TB := TBm 574 (by decide +kernel) rfl
theorem q575 : Cond.methodLink RL (62) yX7_take ∈ TB := TBm 575 (by decide +kernel) rfl
theorem q576 : Cond.instanceMethod yX7_take ∈ TB := TBm 576 (by decide +kernel) rfl
theorem q577 : Cond.selects RX7 yX7_take yX7_take ∈ TB := TBm 577 (by decide +kernel) rfl
theorem q578 : Cond.code yX7_take cX7_take 4 (some .int) ∈ TB := TBm 578 (by decide +kernel) rfl
theorem q579 : Cond.methodLink RX7 (166) yX5_isHeld ∈ TB := TBm 579 (by decide +kernel) rfl
theorem q580 : Cond.instanceMethod yX5_isHeld ∈ TB := TBm 580 (by decide +kernel) rfl
theorem q581 : Cond.selects RX5 yX5_isHeld yX5_isHeld ∈ TB := TBm 581 (by decide +kernel) rfl
theorem q582 : Cond.code yX5_isHeld cX5_isHeld 2 (some .boolean) ∈ TB := TBm 582 (by decide +kernel) rfl
theorem q583 : Cond.methodLink RX7 (169) yX5_propAtHand ∈ TB := TBm 583 (by decide +kernel) rfl
theorem q584 : Cond.instanceMethod yX5_propAtHand ∈ TB := TBm 584 (by decide +kernel) rfl
theorem q585 : Cond.selects RX5 yX5_propAtHand yX5_propAtHand ∈ TB := TBm 585 (by decide +kernel) rfl
theorem q586 : Cond.code yX5_propAtHand cX5_propAtHand 2 (some .boolean) ∈ TB := TBm 586 (by decide +kernel) rfl
theorem q587 : Cond.methodLink RX7 (172) yX5_heldProps ∈ TB := TBm 587 (by decide +kernel) rfl
theorem q588 : Cond.instanceMethod yX5_heldProps ∈ TB := TBm 588 (by decide +kernel) rfl
theorem q589 : Cond.selects RX5 yX5_heldProps yX5_heldProps ∈ TB := TBm 589 (by decide +kernel) rfl
theorem q590 : Cond.code yX5_heldProps cX5_heldProps 1 (some .int) ∈ TB := TBm 590 (by decide +kernel) rfl
theorem q591 : Cond.methodLink RX5 (88) yX5_propsIn ∈ TB := TBm 591 (by decide +kernel) rfl
theorem q592 : Cond.instanceMethod yX5_propsIn ∈ TB := TBm 592 (by decide +kernel) rfl
theorem q593 : Cond.selects RX5 yX5_propsIn yX5_propsIn ∈ TB := TBm 593 (by decide +kernel) rfl
theorem q594 : Cond.code yX5_propsIn cX5_propsIn 4 (some .int) ∈ TB := TBm 594 (by decide +kernel) rfl
theorem q595 : Cond.methodLink RX7 (178) yX7_actMinutes ∈ TB := TBm 595 (by decide +kernel) rfl
theorem q596 : Cond.static yX7_actMinutes ∈ TB := TBm 596 (by decide +kernel) rfl
theorem q597 : Cond.code yX7_actMinutes cX7_actMinutes 2 (some .int) ∈ TB := TBm 597 (by decide +kernel) rfl
theorem q598 : Cond.methodLink RX7 (382) yJ9_max_7cf53 ∈ TB := TBm 598 (by decide +kernel) rfl
theorem q599 : Cond.methodLink RX7 (182) yX6_hasTimeFor ∈ TB := TBm 599 (by decide +kernel) rfl
theorem q600 : Cond.instanceMethod yX6_hasTimeFor ∈ TB := TBm 600 (by decide +kernel) rfl
theorem q601 : Cond.selects RX6 yX6_hasTimeFor yX6_hasTimeFor ∈ TB := TBm 601 (by decide +kernel) rfl
theorem q602 : Cond.code yX6_hasTimeFor cX6_hasTimeFor 2 (some .boolean) ∈ TB := TBm 602 (by decide +kernel) rfl
theorem q603 : Cond.methodLink RX6 (82) yX6_minutesLeft ∈ TB := TBm 603 (by decide +kernel) rfl
theorem q604 : Cond.instanceMethod yX6_minutesLeft ∈ TB := TBm 604 (by decide +kernel) rfl
theorem q605 : Cond.selects RX6 yX6_minutesLeft yX6_minutesLeft ∈ TB := TBm 605 (by decide +kernel) rfl
theorem q606 : Cond.code yX6_minutesLeft cX6_minutesLeft 1 (some .int) ∈ TB := TBm 606 (by decide +kernel) rfl
theorem q607 : Cond.methodLink RX7 (185) yX6_runOutOfTime ∈ TB := TBm 607 (by decide +kernel) rfl
theorem q608 : Cond.instanceMethod yX6_runOutOfTime ∈ TB := TBm 608 (by decide +kernel) rfl
theorem q609 : Cond.selects RX6 yX6_runOutOfTime yX6_runOutOfTime ∈ TB := TBm 609 (by decide +kernel) rfl
theorem q610 : Cond.code yX6_runOutOfTime cX6_runOutOfTime 1 (some .int) ∈ TB := TBm 610 (by decide +kernel) rfl
theorem q611 : Cond.methodLink RX6 (86) yX6_gameMinute ∈ TB := TBm 611 (by decide +kernel) rfl
theorem q612 : Cond.instanceMethod yX6_gameMinute ∈ TB := TBm 612 (by decide +kernel) rfl
theorem q613 : Cond.selects RX6 yX6_gameMinute yX6_gameMinute ∈ TB := TBm 613 (by decide +kernel) rfl
theorem q614 : Cond.code yX6_gameMinute cX6_gameMinute 1 (some .int) ∈ TB := TBm 614 (by decide +kernel) rfl
theorem q616 : Cond.methodLink RX6 (89) yX2_append ∈ TB := TBm 616 (by decide +kernel) rfl
theorem q617 : Cond.instanceMethod yX2_append ∈ TB := TBm 617 (by decide +kernel) rfl
theorem q618 : Cond.selects RX2 yX2_append yX2_append ∈ TB := TBm 618 (by decide +kernel) rfl
theorem q619 : Cond.code yX2_append cX2_append 6 none ∈ TB := TBm 619 (by decide +kernel) rfl
theorem q620 : Cond.methodLink RX2 (27) yX2_appendNumber ∈ TB := TBm 620 (by decide +kernel) rfl
theorem q622 : Cond.instanceMethod yX2_appendNumber ∈ TB := TBm 622 (by decide +kernel) rfl
theorem q623 : Cond.code yX2_appendNumber cX2_appendNumber 3 none ∈ TB := TBm 623 (by decide +kernel) rfl
theorem q624 : Cond.constant RX2 (46) (100000) ∈ TB := TBm 624 (by decide +kernel) rfl
theorem q625 : Cond.methodLink RX2 (31) yX2_appendSign ∈ TB := TBm 625 (by decide +kernel) rfl
theorem q627 : Cond.instanceMethod yX2_appendSign ∈ TB := TBm 627 (by decide +kernel) rfl
theorem q628 : Cond.code yX2_appendSign cX2_appendSign 2 none ∈ TB := TBm 628 (by decide +kernel) rfl
theorem q630 : Cond.methodLink RX2 (34) yJ0_length_8abf5 ∈ TB := TBm 630 (by decide +kernel) rfl
theorem q631 : Cond.methodLink RX2 (39) yJ0_charAt_5068e ∈ TB := TBm 631 (by decide +kernel) rfl
theorem q632 : Cond.methodLink RX2 (43) yX2_appendArgument ∈ TB := TBm 632 (by decide +kernel) rfl
theorem q634 : Cond.instanceMethod yX2_appendArgument ∈ TB := TBm 634 (by decide +kernel) rfl
theorem q635 : Cond.code yX2_appendArgument cX2_appendArgument 2 none ∈ TB := TBm 635 (by decide +kernel) rfl
theorem q636 : Cond.methodLink RX6 (161) yX6_endGame ∈ TB := TBm 636 (by decide +kernel) rfl
theorem q637 : Cond.instanceMethod yX6_endGame ∈ TB := TBm 637 (by decide +kernel) rfl
theorem q638 : Cond.selects RX6 yX6_endGame yX6_endGame ∈ TB := TBm 638 (by decide +kernel) rfl
theorem q639 : Cond.code yX6_endGame cX6_endGame 2 none ∈ TB := TBm 639 (by decide +kernel) rfl
theorem q641 : Cond.static yX7_asNumber ∈ TB := TBm 641 (by decide +kernel) rfl
theorem q642 : Cond.code yX7_asNumber cX7_asNumber 1 (some .int) ∈ TB := TBm 642 (by decide +kernel) rfl
theorem q643 : Cond.methodLink RX6 (150) yX4_append ∈ TB := TBm 643 (by decide +kernel) rfl
theorem q644 : Cond.instanceMethod yX4_append ∈ TB := TBm 644 (by decide +kernel) rfl
theorem q645 : Cond.selects RX4 yX4_append yX4_append ∈ TB := TBm 645 (by decide +kernel) rfl
theorem q646 : Cond.code yX4_append cX4_append 5 none ∈ TB := TBm 646 (by decide +kernel) rfl
theorem q648 : Cond.methodLink RX6 (153) yX5_dropHeldProps ∈ TB := TBm 648 (by decide +kernel) rfl
theorem q649 : Cond.instanceMethod yX5_dropHeldProps ∈ TB := TBm 649 (by decide +kernel) rfl
theorem q650 : Cond.selects RX5 yX5_dropHeldProps yX5_dropHeldProps ∈ TB := TBm 650 (by decide +kernel) rfl
theorem q651 : Cond.code yX5_dropHeldProps cX5_dropHeldProps 2 none ∈ TB := TBm 651 (by decide +kernel) rfl
theorem q652 : Cond.methodLink RX5 (91) yX5_isHeld ∈ TB := TBm 652 (by decide +kernel) rfl
theorem q653 : Cond.methodLink RX6 (156) yX5_forgetDigits ∈ TB := TBm 653 (by decide +kernel) rfl
theorem q654 : Cond.instanceMethod yX5_forgetDigits ∈ TB := TBm 654 (by decide +kernel) rfl
theorem q655 : Cond.selects RX5 yX5_forgetDigits yX5_forgetDigits ∈ TB := TBm 655 (by decide +kernel) rfl
theorem q656 : Cond.code yX5_forgetDigits cX5_forgetDigits 2 none ∈ TB := TBm 656 (by decide +kernel) rfl
theorem q658 : Cond.methodLink RX7 (190) yX6_note ∈ TB := TBm 658 (by decide +kernel) rfl
theorem q659 : Cond.instanceMethod yX6_note ∈ TB := TBm 659 (by decide +kernel) rfl
theorem q660 : Cond.selects RX6 yX6_note yX6_note ∈ TB := TBm 660 (by decide +kernel) rfl
theorem q661 : Cond.code yX6_note cX6_note 4 none ∈ TB := TBm 661 (by decide +kernel) rfl
theorem q662 : Cond.methodLink RX7 (197) yX6_pass ∈ TB := TBm 662 (by decide +kernel) rfl
theorem q663 : Cond.methodLink RL (66) yX7_lay ∈ TB := TBm 663 (by decide +kernel) rfl
theorem q664 : Cond.instanceMethod yX7_lay ∈ TB := TBm 664 (by decide +kernel) rfl
theorem q665 : Cond.selects RX7 yX7_lay yX7_lay ∈ TB := TBm 665 (by decide +kernel) rfl
theorem q666 : Cond.code yX7_lay cX7_lay 5 (some .int) ∈ TB := TBm 666 (by decide +kernel) rfl
theorem q667 : Cond.methodLink RX7 (200) yX5_outermostClosed ∈ TB := TBm 667 (by decide +kernel) rfl
theorem q669 : Cond.methodLink RL (70) yX7_open ∈ TB := TBm 669 (by decide +kernel) rfl
theorem q670 : Cond.instanceMethod yX7_open ∈ TB := TBm 670 (by decide +kernel) rfl
theorem q671 : Cond.selects RX7 yX7_open yX7_open ∈ TB := TBm 671 (by decide +kernel) rfl
theorem q672 : Cond.code yX7_open cX7_open 6 (some .int) ∈ TB := TBm 672 (by decide +kernel) rfl
theorem q673 : Cond.methodLink RX7 (205) yX5_canBeOpened ∈ TB := TBm 673 (by decide +kernel) rfl
theorem q674 : Cond.instanceMethod yX5_canBeOpened ∈ TB := TBm 674 (by decide +kernel) rfl
theorem q675 : Cond.selects RX5 yX5_canBeOpened yX5_canBeOpened ∈ TB := TBm 675 (by decide +kernel) rfl
theorem q676 : Cond.code yX5_canBeOpened cX5_canBeOpened 3 (some .boolean) ∈ TB := TBm 676 (by decide +kernel) rfl
theorem q677 : Cond.methodLink RX5 (81) yX5_boxAtHand ∈ TB := TBm 677 (by decide +kernel) rfl
theorem q678 : Cond.instanceMethod yX5_boxAtHand ∈ TB := TBm 678 (by decide +kernel) rfl
theorem q679 : Cond.selects RX5 yX5_boxAtHand yX5_boxAtHand ∈ TB := TBm 679 (by decide +kernel) rfl
theorem q680 : Cond.code yX5_boxAtHand cX5_boxAtHand 2 (some .boolean) ∈ TB := TBm 680 (by decide +kernel) rfl
theorem q681 : Cond.methodLink RX5 (84) yX5_hasLock ∈ TB := TBm 681 (by decide +kernel) rfl
theorem q683 : Cond.methodLink RX7 (218) yX6_endGame ∈ TB := TBm 683 (by decide +kernel) rfl
theorem q684 : Cond.methodLink RL (74) yX7_read ∈ TB := TBm 684 (by decide +kernel) rfl
theorem q685 : Cond.instanceMethod yX7_read ∈ TB := TBm 685 (by decide +kernel) rfl
theorem q686 : Cond.selects RX7 yX7_read yX7_read ∈ TB := TBm 686 (by decide +kernel) rfl
theorem q687 : Cond.code yX7_read cX7_read 4 (some .int) ∈ TB := TBm 687 (by decide +kernel) rfl
theorem q688 : Cond.methodLink RX7 (222) yX5_hasClue ∈ TB := TBm 688 (by decide +kernel) rfl
theorem q689 : Cond.instanceMethod yX5_hasClue ∈ TB := TBm 689 (by decide +kernel) rfl
theorem q690 : Cond.selects RX5 yX5_hasClue yX5_hasClue ∈ TB := TBm 690 (by decide +kernel) rfl
theorem q691 : Cond.code yX5_hasClue cX5_hasClue 2 (some .boolean) ∈ TB := TBm 691 (by decide +kernel) rfl
theorem q692 : Cond.methodLink RX7 (225) yX5_clueAtHand ∈ TB := TBm 692 (by decide +kernel) rfl
theorem q693 : Cond.methodLink RX7 (231) yX5_readingMinutes ∈ TB := TBm 693 (by decide +kernel) rfl
theorem q694 : Cond.instanceMethod yX5_readingMinutes ∈ TB := TBm 694 (by decide +kernel) rfl
theorem q695 : Cond.selects RX5 yX5_readingMinutes yX5_readingMinutes ∈ TB := TBm 695 (by decide +kernel) rfl
theorem q696 : Cond.code yX5_readingMinutes cX5_readingMinutes 2 (some .int) ∈ TB := TBm 696 (by decide +kernel) rfl
theorem q698 : Cond.methodLink RX5 (94) yX5_isPale ∈ TB := TBm 698 (by decide +kernel) rfl
theorem q699 : Cond.instanceMethod yX5_isPale ∈ TB := TBm 699 (by decide +kernel) rfl
theorem q700 : Cond.selects RX5 yX5_isPale yX5_isPale ∈ TB := TBm 700 (by decide +kernel) rfl
theorem q701 : Cond.code yX5_isPale cX5_isPale 2 (some .boolean) ∈ TB := TBm 701 (by decide +kernel) rfl
theorem q703 : Cond.methodLink RX7 (236) yX5_learnFromClue ∈ TB := TBm 703 (by decide +kernel) rfl
theorem q704 : Cond.instanceMethod yX5_learnFromClue ∈ TB := TBm 704 (by decide +kernel) rfl
theorem q705 : Cond.selects RX5 yX5_learnFromClue yX5_learnFromClue ∈ TB := TBm 705 (by decide +kernel) rfl
theorem q706 : Cond.code yX5_learnFromClue cX5_learnFromClue 2 none ∈ TB := TBm 706 (by decide +kernel) rfl
theorem q707 : Cond.methodLink RX5 (109) yX5_learnDigit ∈ TB := TBm 707 (by decide +kernel) rfl
theorem q708 : Cond.instanceMethod yX5_learnDigit ∈ TB := TBm 708 (by decide +kernel) rfl
theorem q709 : Cond.selects RX5 yX5_learnDigit yX5_learnDigit ∈ TB := TBm 709 (by decide +kernel) rfl
theorem q710 : Cond.code yX5_learnDigit cX5_learnDigit 3 none ∈ TB := TBm 710 (by decide +kernel) rfl
theorem q711 : Cond.methodLink RX7 (239) yX5_clueDigit ∈ TB := TBm 711 (by decide +kernel) rfl
theorem q712 : Cond.instanceMethod yX5_clueDigit ∈ TB := TBm 712 (by decide +kernel) rfl
theorem q713 : Cond.selects RX5 yX5_clueDigit yX5_clueDigit ∈ TB := TBm 713 (by decide +kernel) rfl
theorem q714 : Cond.code yX5_clueDigit cX5_clueDigit 3 (some .int) ∈ TB := TBm 714 (by decide +kernel) rfl
theorem q715 : Cond.methodLink RL (78) yX7_rest ∈ TB := TBm 715 (by decide +kernel) rfl
theorem q716 : Cond.instanceMethod yX7_rest ∈ TB := TBm 716 (by decide +kernel) rfl
theorem q717 : Cond.selects RX7 yX7_rest yX7_rest ∈ TB := TBm 717 (by decide +kernel) rfl
theorem q718 : Cond.code yX7_rest cX7_rest 2 (some .int) ∈ TB := TBm 718 (by decide +kernel) rfl
theorem q720 : Cond.methodLink RX7 (244) yX6_minutesLeft ∈ TB := TBm 720 (by decide +kernel) rfl
theorem q721 : Cond.methodLink RL (82) yX7_nudge ∈ TB := TBm 721 (by decide +kernel) rfl
theorem q722 : Cond.instanceMethod yX7_nudge ∈ TB := TBm 722 (by decide +kernel) rfl
theorem q723 : Cond.selects RX7 yX7_nudge yX7_nudge ∈ TB := TBm 723 (by decide +kernel) rfl
theorem q724 : Cond.code yX7_nudge cX7_nudge 2 (some .int) ∈ TB := TBm 724 (by decide +kernel) rfl
theorem q725 : Cond.methodLink RX7 (250) yX5_stepFor ∈ TB := TBm 725 (by decide +kernel) rfl
theorem q726 : Cond.instanceMethod yX5_stepFor ∈ TB := TBm 726 (by decide +kernel) rfl
theorem q727 : Cond.selects RX5 yX5_stepFor yX5_stepFor ∈ TB := TBm 727 (by decide +kernel) rfl
theorem q728 : Cond.code yX5_stepFor cX5_stepFor 6 (some .int) ∈ TB := TBm 728 (by decide +kernel) rfl
theorem q729 : Cond.methodLink RX5 (113) yX5_stepForCode ∈ TB := TBm 729 (by decide +kernel) rfl
theorem q731 : Cond.instanceMethod yX5_stepForCode ∈ TB := TBm 731 (by decide +kernel) rfl
theorem q732 : Cond.code yX5_stepForCode cX5_stepForCode 6 (some .int) ∈ TB := TBm 732 (by decide +kernel) rfl
theorem q733 : Cond.methodLink RX5 (129) yX5_lowestUnknownPlace ∈ TB := TBm 733 (by decide +kernel) rfl
theorem q735 : Cond.instanceMethod yX5_lowestUnknownPlace ∈ TB := TBm 735 (by decide +kernel) rfl
theorem q736 : Cond.code yX5_lowestUnknownPlace cX5_lowestUnknownPlace 3 (some .int) ∈ TB := TBm 736 (by decide +kernel) rfl
theorem q737 : Cond.methodLink RX5 (116) yX5_stepForThing ∈ TB := TBm 737 (by decide +kernel) rfl
theorem q739 : Cond.instanceMethod yX5_stepForThing ∈ TB := TBm 739 (by decide +kernel) rfl
theorem q740 : Cond.code yX5_stepForThing cX5_stepForThing 4 (some .int) ∈ TB := TBm 740 (by decide +kernel) rfl
theorem q741 : Cond.methodLink RX5 (119) yX5_stepToHold ∈ TB := TBm 741 (by decide +kernel) rfl
theorem q743 : Cond.instanceMethod yX5_stepToHold ∈ TB := TBm 743 (by decide +kernel) rfl
theorem q744 : Cond.code yX5_stepToHold cX5_stepToHold 3 (some .int) ∈ TB := TBm 744 (by decide +kernel) rfl
theorem q745 : Cond.methodLink RX5 (122) yX5_heldProps ∈ TB := TBm 745 (by decide +kernel) rfl
theorem q746 : Cond.methodLink RX5 (126) yX5_lowestHeld ∈ TB := TBm 746 (by decide +kernel) rfl
theorem q748 : Cond.instanceMethod yX5_lowestHeld ∈ TB := TBm 748 (by decide +kernel) rfl
theorem q749 : Cond.code yX5_lowestHeld cX5_lowestHeld 2 (some .int) ∈ TB := TBm 749 (by decide +kernel) rfl
theorem q751 : Cond.methodLink RX7 (255) yX7_toldStep ∈ TB := TBm 751 (by decide +kernel) rfl
theorem q752 : Cond.static yX7_toldStep ∈ TB := TBm 752 (by decide +kernel) rfl
theorem q753 : Cond.code yX7_toldStep cX7_toldStep 1 (some .int) ∈ TB := TBm 753 (by decide +kernel) rfl
theorem q754 : Cond.methodLink RX7 (258) yX7_stepKind ∈ TB := TBm 754 (by decide +kernel) rfl
theorem q755 : Cond.static yX7_stepKind ∈ TB := TBm 755 (by decide +kernel) rfl
theorem q756 : Cond.code yX7_stepKind cX7_stepKind 1 (some .int) ∈ TB := TBm 756 (by decide +kernel) rfl
theorem q757 : Cond.methodLink RX7 (261) yX5_learnDigit ∈ TB := TBm 757 (by decide +kernel) rfl
theorem q758 : Cond.methodLink RL (86) yX7_giveUp ∈ TB := TBm 758 (by decide +kernel) rfl
theorem q759 : Cond.instanceMethod yX7_giveUp ∈ TB := TBm 759 (by decide +kernel) rfl
theorem q760 : Cond.selects RX7 yX7_giveUp yX7_giveUp ∈ TB := TBm 760 (by decide +kernel) rfl
theorem q761 : Cond.code yX7_giveUp cX7_giveUp 2 (some .int) ∈ TB := TBm 761 (by decide +kernel) rfl
theorem q762 : Cond.methodLink RX7 (264) yX6_gameMinute ∈ TB := TBm 762 (by decide +kernel) rfl
theorem q764 : Cond.methodLink RL (90) yX7_idle ∈ TB := TBm 764 (by decide +kernel) rfl
theorem q765 : Cond.instanceMethod yX7_idle ∈ TB := TBm 765 (by decide +kernel) rfl
theorem q766 : Cond.selects RX7 yX7_idle yX7_idle ∈ TB := TBm 766 (by decide +kernel) rfl
theorem q767 : Cond.code yX7_idle cX7_idle 2 (some .int) ∈ TB := TBm 767 (by decide +kernel) rfl
theorem q768 : Cond.methodLink RL (94) yX7_putHome ∈ TB := TBm 768 (by decide +kernel) rfl
theorem q769 : Cond.instanceMethod yX7_putHome ∈ TB := TBm 769 (by decide +kernel) rfl
theorem q770 : Cond.selects RX7 yX7_putHome yX7_putHome ∈ TB := TBm 770 (by decide +kernel) rfl
theorem q771 : Cond.code yX7_putHome cX7_putHome 4 (some .int) ∈ TB := TBm 771 (by decide +kernel) rfl
theorem q772 : Cond.methodLink RL (98) yX7_close ∈ TB := TBm 772 (by decide +kernel) rfl
theorem q773 : Cond.instanceMethod yX7_close ∈ TB := TBm 773 (by decide +kernel) rfl
theorem q774 : Cond.selects RX7 yX7_close yX7_close ∈ TB := TBm 774 (by decide +kernel) rfl
theorem q775 : Cond.code yX7_close cX7_close 3 (some .int) ∈ TB := TBm 775 (by decide +kernel) rfl
theorem q776 : Cond.methodLink RX7 (275) yX5_openBoxes ∈ TB := TBm 776 (by decide +kernel) rfl
theorem q777 : Cond.methodLink RL (102) yX7_writeOver ∈ TB := TBm 777 (by decide +kernel) rfl
theorem q778 : Cond.instanceMethod yX7_writeOver ∈ TB := TBm 778 (by decide +kernel) rfl
theorem q779 : Cond.selects RX7 yX7_writeOver yX7_writeOver ∈ TB := TBm 779 (by decide +kernel) rfl
theorem q780 : Cond.code yX7_writeOver cX7_writeOver 4 (some .int) ∈ TB := TBm 780 (by decide +kernel) rfl
theorem q781 : Cond.methodLink RX7 (278) yX5_inkLack ∈ TB := TBm 781 (by decide +kernel) rfl
theorem q782 : Cond.instanceMethod yX5_inkLack ∈ TB := TBm 782 (by decide +kernel) rfl
theorem q783 : Cond.selects RX5 yX5_inkLack yX5_inkLack ∈ TB := TBm 783 (by decide +kernel) rfl
theorem q784 : Cond.code yX5_inkLack cX5_inkLack 2 (some .int) ∈ TB := TBm 784 (by decide +kernel) rfl
theorem q785 : Cond.methodLink RX7 (281) yX6_refill ∈ TB := TBm 785 (by decide +kernel) rfl
theorem q786 : Cond.instanceMethod yX6_refill ∈ TB := TBm 786 (by decide +kernel) rfl
theorem q787 : Cond.selects RX6 yX6_refill yX6_refill ∈ TB := TBm 787 (by decide +kernel) rfl
theorem q788 : Cond.code yX6_refill cX6_refill 2 none ∈ TB := TBm 788 (by decide +kernel) rfl
theorem q789 : Cond.methodLink RX6 (165) yX5_inkLack ∈ TB := TBm 789 (by decide +kernel) rfl
theorem q791 : Cond.methodLink RL (106) yX7_reset ∈ TB := TBm 791 (by decide +kernel) rfl
theorem q792 : Cond.instanceMethod yX7_reset ∈ TB := TBm 792 (by decide +kernel) rfl
theorem q793 : Cond.selects RX7 yX7_reset yX7_reset ∈ TB := TBm 793 (by decide +kernel) rfl
theorem q794 : Cond.code yX7_reset cX7_reset 2 (some .int) ∈ TB := TBm 794 (by decide +kernel) rfl
theorem q795 : Cond.methodLink RX7 (284) yX6_resetMinutes ∈ TB := TBm 795 (by decide +kernel) rfl
theorem q796 : Cond.instanceMethod yX6_resetMinutes ∈ TB := TBm 796 (by decide +kernel) rfl
theorem q797 : Cond.selects RX6 yX6_resetMinutes yX6_resetMinutes ∈ TB := TBm 797 (by decide +kernel) rfl
theorem q798 : Cond.code yX6_resetMinutes cX6_resetMinutes 1 (some .int) ∈ TB := TBm 798 (by decide +kernel) rfl
theorem q799 : Cond.methodLink RX6 (183) yX6_cluesOfReset ∈ TB := TBm 799 (by decide +kernel) rfl
theorem q801 : Cond.instanceMethod yX6_cluesOfReset ∈ TB := TBm 801 (by decide +kernel) rfl
theorem q802 : Cond.code yX6_cluesOfReset cX6_cluesOfReset 4 (some .int) ∈ TB := TBm 802 (by decide +kernel) rfl
theorem q803 : Cond.methodLink RX6 (179) yX5_isPale ∈ TB := TBm 803 (by decide +kernel) rfl
theorem q804 : Cond.methodLink RX6 (186) yJ6_bitCount_0f7a4 ∈ TB := TBm 804 (by decide +kernel) rfl
theorem q805 : Cond.static yJ6_bitCount_0f7a4 ∈ TB := TBm 805 (by decide +kernel) rfl
theorem q806 : Cond.code yJ6_bitCount_0f7a4 cJ6_bitCount_0f7a4 1 (some .int) ∈ TB := TBm 806 (by decide +kernel) rfl
theorem q807 : Cond.constant RJ6 (265) (1431655765) ∈ TB := TBm 807 (by decide +kernel) rfl
theorem q808 : Cond.constant RJ6 (266) (858993459) ∈ TB := TBm 808 (by decide +kernel) rfl
theorem q809 : Cond.constant RJ6 (267) (252645135) ∈ TB := TBm 809 (by decide +kernel) rfl
theorem q810 : Cond.methodLink RX7 (287) yX6_bringToOrder ∈ TB := TBm 810 (by decide +kernel) rfl
theorem q811 : Cond.instanceMethod yX6_bringToOrder ∈ TB := TBm 811 (by decide +kernel) rfl
theorem q812 : Cond.selects RX6 yX6_bringToOrder yX6_bringToOrder ∈ TB := TBm 812 (by decide +kernel) rfl
theorem q813 : Cond.code yX6_bringToOrder cX6_bringToOrder 3 none ∈ TB := TBm 813 (by decide +kernel) rfl
theorem q814 : Cond.methodLink RX6 (191) yX5_bringPropsHome ∈ TB := TBm 814 (by decide +kernel) rfl
theorem q815 : Cond.instanceMethod yX5_bringPropsHome ∈ TB := TBm 815 (by decide +kernel) rfl
theorem q816 : Cond.selects RX5 yX5_bringPropsHome yX5_bringPropsHome ∈ TB := TBm 816 (by decide +kernel) rfl
theorem q817 : Cond.code yX5_bringPropsHome cX5_bringPropsHome 2 none ∈ TB := TBm 817 (by decide +kernel) rfl
theorem q818 : Cond.methodLink RX6 (194) yX5_closeBoxes ∈ TB := TBm 818 (by decide +kernel) rfl
theorem q819 : Cond.instanceMethod yX5_closeBoxes ∈ TB := TBm 819 (by decide +kernel) rfl
theorem q820 : Cond.selects RX5 yX5_closeBoxes yX5_closeBoxes ∈ TB := TBm 820 (by decide +kernel) rfl
theorem q821 : Cond.code yX5_closeBoxes cX5_closeBoxes 2 none ∈ TB := TBm 821 (by decide +kernel) rfl
theorem q822 : Cond.methodLink RX6 (197) yX6_refill ∈ TB := TBm 822 (by decide +kernel) rfl
theorem q823 : Cond.methodLink RL (110) yX7_keep ∈ TB := TBm 823 (by decide +kernel) rfl
theorem q824 : Cond.instanceMethod yX7_keep ∈ TB := TBm 824 (by decide +kernel) rfl
theorem q825 : Cond.selects RX7 yX7_keep yX7_keep ∈ TB := TBm 825 (by decide +kernel) rfl
theorem q826 : Cond.code yX7_keep cX7_keep 2 (some .int) ∈ TB := TBm 826 (by decide +kernel) rfl
theorem q827 : Cond.methodLink RX7 (290) yX7_isSlot ∈ TB := TBm 827 (by decide +kernel) rfl
theorem q828 : Cond.static yX7_isSlot ∈ TB := TBm 828 (by decide +kernel) rfl
theorem q829 : Cond.code yX7_isSlot cX7_isSlot 1 (some .boolean) ∈ TB := TBm 829 (by decide +kernel) rfl
theorem q830 : Cond.methodLink RX7 (293) yX7_slotState ∈ TB := TBm 830 (by decide +kernel) rfl
theorem q832 : Cond.instanceMethod yX7_slotState ∈ TB := TBm 832 (by decide +kernel) rfl
theorem q833 : Cond.code yX7_slotState cX7_slotState 2 (some (.object "ResetRooms$State")) ∈ TB := TBm 833 (by decide +kernel) rfl
theorem q834 : Cond.methodLink RX7 (297) yX6_copyFrom ∈ TB := TBm 834 (by decide +kernel) rfl
theorem q835 : Cond.instanceMethod yX6_copyFrom ∈ TB := TBm 835 (by decide +kernel) rfl
theorem q836 : Cond.selects RX6 yX6_copyFrom yX6_copyFrom ∈ TB := TBm 836 (by decide +kernel) rfl
theorem q837 : Cond.code yX6_copyFrom cX6_copyFrom 2 none ∈ TB := TBm 837 (by decide +kernel) rfl
theorem q838 : Cond.methodLink RX6 (53) yX5_copyFrom ∈ TB := TBm 838 (by decide +kernel) rfl
theorem q839 : Cond.instanceMethod yX5_copyFrom ∈ TB := TBm 839 (by decide +kernel) rfl
theorem q840 : Cond.selects RX5 yX5_copyFrom yX5_copyFrom ∈ TB := TBm 840 (by decide +kernel) rfl
theorem q841 : Cond.code yX5_copyFrom cX5_copyFrom 2 none ∈ TB := TBm 841 (by decide +kernel) rfl
theorem q843 : Cond.static yX7_copyRow ∈ TB := TBm 843 (by decide +kernel) rfl
theorem q844 : Cond.code yX7_copyRow cX7_copyRow 3 none ∈ TB := TBm 844 (by decide +kernel) rfl
theorem q845 : Cond.methodLink RX6 (57) yX3_copyFrom ∈ TB := TBm 845 (by decide +kernel) rfl
theorem q846 : Cond.instanceMethod yX3_copyFrom ∈ TB := TBm 846 (by decide +kernel) rfl
theorem q847 : Cond.selects RX3 yX3_copyFrom yX3_copyFrom ∈ TB := TBm 847 (by decide +kernel) rfl
theorem q848 : Cond.code yX3_copyFrom cX3_copyFrom 2 none ∈ TB := TBm 848 (by decide +kernel) rfl
theorem q850 : Cond.methodLink RX6 (60) yX1_copyFrom ∈ TB := TBm 850 (by decide +kernel) rfl
theorem q851 : Cond.instanceMethod yX1_copyFrom ∈ TB := TBm 851 (by decide +kernel) rfl
theorem q852 : Cond.selects RX1 yX1_copyFrom yX1_copyFrom ∈ TB := TBm 852 (by decide +kernel) rfl
theorem q853 : Cond.code yX1_copyFrom cX1_copyFrom 2 none ∈ TB := TBm 853 (by decide +kernel) rfl
theorem q854 : Cond.methodLink RX6 (63) yX4_copyFrom ∈ TB := TBm 854 (by decide +kernel) rfl
theorem q855 : Cond.instanceMethod yX4_copyFrom ∈ TB := TBm 855 (by decide +kernel) rfl
theorem q856 : Cond.selects RX4 yX4_copyFrom yX4_copyFrom ∈ TB := TBm 856 (by decide +kernel) rfl
theorem q857 : Cond.code yX4_copyFrom cX4_copyFrom 2 none ∈ TB := TBm 857 (by decide +kernel) rfl
theorem q859 : Cond.methodLink RX6 (66) yX2_copyFrom ∈ TB := TBm 859 (by decide +kernel) rfl
theorem q860 : Cond.instanceMethod yX2_copyFrom ∈ TB := TBm 860 (by decide +kernel) rfl
theorem q861 : Cond.selects RX2 yX2_copyFrom yX2_copyFrom ∈ TB := TBm 861 (by decide +kernel) rfl
theorem q862 : Cond.code yX2_copyFrom cX2_copyFrom 3 none ∈ TB := TBm 862 (by decide +kernel) rfl
theorem q864 : Cond.methodLink RL (114) yX7_restore ∈ TB := TBm 864 (by decide +kernel) rfl
theorem q865 : Cond.instanceMethod yX7_restore ∈ TB := TBm 865 (by decide +kernel) rfl
theorem q866 : Cond.selects RX7 yX7_restore yX7_restore ∈ TB := TBm 866 (by decide +kernel) rfl
theorem q867 : Cond.code yX7_restore cX7_restore 2 (some .int) ∈ TB := TBm 867 (by decide +kernel) rfl
theorem q868 : Cond.methodLink RL (118) yX7_box ∈ TB := TBm 868 (by decide +kernel) rfl
theorem q869 : Cond.instanceMethod yX7_box ∈ TB := TBm 869 (by decide +kernel) rfl
theorem q870 : Cond.selects RX7 yX7_box yX7_box ∈ TB := TBm 870 (by decide +kernel) rfl
theorem q871 : Cond.code yX7_box cX7_box 4 (some .int) ∈ TB := TBm 871 (by decide +kernel) rfl
theorem q872 : Cond.methodLink RX7 (305) yX5_boxAtHand ∈ TB := TBm 872 (by decide +kernel) rfl
theorem q873 : Cond.methodLink RX7 (308) yX7_asNumber ∈ TB := TBm 873 (by decide +kernel) rfl
theorem q874 : Cond.methodLink RX7 (312) yX5_propsIn ∈ TB := TBm 874 (by decide +kernel) rfl
theorem q875 : Cond.methodLink RX7 (315) yX5_boxesIn ∈ TB := TBm 875 (by decide +kernel) rfl
theorem q876 : Cond.instanceMethod yX5_boxesIn ∈ TB := TBm 876 (by decide +kernel) rfl
theorem q877 : Cond.selects RX5 yX5_boxesIn yX5_boxesIn ∈ TB := TBm 877 (by decide +kernel) rfl
theorem q878 : Cond.code yX5_boxesIn cX5_boxesIn 4 (some .int) ∈ TB := TBm 878 (by decide +kernel) rfl
theorem q879 : Cond.methodLink RL (122) yX7_prop ∈ TB := TBm 879 (by decide +kernel) rfl
theorem q880 : Cond.instanceMethod yX7_prop ∈ TB := TBm 880 (by decide +kernel) rfl
theorem q881 : Cond.selects RX7 yX7_prop yX7_prop ∈ TB := TBm 881 (by decide +kernel) rfl
theorem q882 : Cond.code yX7_prop cX7_prop 4 (some .int) ∈ TB := TBm 882 (by decide +kernel) rfl
theorem q883 : Cond.methodLink RX7 (321) yX5_cluesOn ∈ TB := TBm 883 (by decide +kernel) rfl
theorem q884 : Cond.instanceMethod yX5_cluesOn ∈ TB := TBm 884 (by decide +kernel) rfl
theorem q885 : Cond.selects RX5 yX5_cluesOn yX5_cluesOn ∈ TB := TBm 885 (by decide +kernel) rfl
theorem q886 : Cond.code yX5_cluesOn cX5_cluesOn 4 (some .int) ∈ TB := TBm 886 (by decide +kernel) rfl
theorem q887 : Cond.methodLink RX7 (324) yX5_locksWith ∈ TB := TBm 887 (by decide +kernel) rfl
theorem q888 : Cond.instanceMethod yX5_locksWith ∈ TB := TBm 888 (by decide +kernel) rfl
theorem q889 : Cond.selects RX5 yX5_locksWith yX5_locksWith ∈ TB := TBm 889 (by decide +kernel) rfl
theorem q890 : Cond.code yX5_locksWith cX5_locksWith 4 (some .int) ∈ TB := TBm 890 (by decide +kernel) rfl
theorem q891 : Cond.methodLink RL (126) yX7_clue ∈ TB := TBm 891 (by decide +kernel) rfl
theorem q892 : Cond.instanceMethod yX7_clue ∈ TB := TBm 892 (by decide +kernel) rfl
theorem q893 : Cond.selects RX7 yX7_clue yX7_clue ∈ TB := TBm 893 (by decide +kernel) rfl
theorem q894 : Cond.code yX7_clue cX7_clue 4 (some .int) ∈ TB := TBm 894 (by decide +kernel) rfl
theorem q895 : Cond.methodLink RL (130) yX7_game ∈ TB := TBm 895 (by decide +kernel) rfl
theorem q896 : Cond.instanceMethod yX7_game ∈ TB := TBm 896 (by decide +kernel) rfl
theorem q897 : Cond.selects RX7 yX7_game yX7_game ∈ TB := TBm 897 (by decide +kernel) rfl
theorem q898 : Cond.code yX7_game cX7_game 2 (some .int) ∈ TB := TBm 898 (by decide +kernel) rfl
theorem q899 : Cond.methodLink RX7 (342) yX5_heldBits ∈ TB := TBm 899 (by decide +kernel) rfl
theorem q900 : Cond.instanceMethod yX5_heldBits ∈ TB := TBm 900 (by decide +kernel) rfl
theorem q901 : Cond.selects RX5 yX5_heldBits yX5_heldBits ∈ TB := TBm 901 (by decide +kernel) rfl
theorem q902 : Cond.code yX5_heldBits cX5_heldBits 3 (some .int) ∈ TB := TBm 902 (by decide +kernel) rfl
theorem q903 : Cond.methodLink RL (134) yX7_group ∈ TB := TBm 903 (by decide +kernel) rfl
theorem q904 : Cond.instanceMethod yX7_group ∈ TB := TBm 904 (by decide +kernel) rfl
theorem q905 : Cond.selects RX7 yX7_group yX7_group ∈ TB := TBm 905 (by decide +kernel) rfl
theorem q906 : Cond.code yX7_group cX7_group 3 (some .int) ∈ TB := TBm 906 (by decide +kernel) rfl
theorem q907 : Cond.methodLink RX7 (347) yX6_latestStart ∈ TB := TBm 907 (by decide +kernel) rfl
theorem q908 : Cond.instanceMethod yX6_latestStart ∈ TB := TBm 908 (by decide +kernel) rfl
theorem q909 : Cond.selects RX6 yX6_latestStart yX6_latestStart ∈ TB := TBm 909 (by decide +kernel) rfl
theorem q910 : Cond.code yX6_latestStart cX6_latestStart 4 (some .int) ∈ TB := TBm 910 (by decide +kernel) rfl
theorem q911 : Cond.methodLink RL (138) yX7_result ∈ TB := TBm 911 (by decide +kernel) rfl
theorem q912 : Cond.instanceMethod yX7_result ∈ TB := TBm 912 (by decide +kernel) rfl
theorem q913 : Cond.selects RX7 yX7_result yX7_result ∈ TB := TBm 913 (by decide +kernel) rfl
theorem q914 : Cond.code yX7_result cX7_result 3 (some .int) ∈ TB := TBm 914 (by decide +kernel) rfl
theorem q915 : Cond.methodLink RL (142) yX7_nextStep ∈ TB := TBm 915 (by decide +kernel) rfl
theorem q916 : Cond.instanceMethod yX7_nextStep ∈ TB := TBm 916 (by decide +kernel) rfl
theorem q917 : Cond.selects RX7 yX7_nextStep yX7_nextStep ∈ TB := TBm 917 (by decide +kernel) rfl
theorem q918 : Cond.code yX7_nextStep cX7_nextStep 1 (some .int) ∈ TB := TBm 918 (by decide +kernel) rfl
theorem q919 : Cond.methodLink RL (146) yX7_plan ∈ TB := TBm 919 (by decide +kernel) rfl
theorem q920 : Cond.instanceMethod yX7_plan ∈ TB := TBm 920 (by decide +kernel) rfl
theorem q921 : Cond.selects RX7 yX7_plan yX7_plan ∈ TB := TBm 921 (by decide +kernel) rfl
theorem q922 : Cond.code yX7_plan cX7_plan 2 (some .int) ∈ TB := TBm 922 (by decide +kernel) rfl
theorem q923 : Cond.methodLink RX7 (353) yX5_copyFrom ∈ TB := TBm 923 (by decide +kernel) rfl
theorem q924 : Cond.methodLink RX7 (356) yX5_minutesToExit ∈ TB := TBm 924 (by decide +kernel) rfl
theorem q925 : Cond.instanceMethod yX5_minutesToExit ∈ TB := TBm 925 (by decide +kernel) rfl
theorem q926 : Cond.selects RX5 yX5_minutesToExit yX5_minutesToExit ∈ TB := TBm 926 (by decide +kernel) rfl
theorem q927 : Cond.code yX5_minutesToExit cX5_minutesToExit 4 (some .int) ∈ TB := TBm 927 (by decide +kernel) rfl
theorem q928 : Cond.methodLink RX5 (132) yX5_stepFor ∈ TB := TBm 928 (by decide +kernel) rfl
theorem q930 : Cond.methodLink RX5 (138) yX5_follow ∈ TB := TBm 930 (by decide +kernel) rfl
theorem q932 : Cond.instanceMethod yX5_follow ∈ TB := TBm 932 (by decide +kernel) rfl
theorem q933 : Cond.code yX5_follow cX5_follow 5 (some .int) ∈ TB := TBm 933 (by decide +kernel) rfl
theorem q934 : Cond.methodLink RX5 (142) yX5_readingMinutes ∈ TB := TBm 934 (by decide +kernel) rfl
theorem q935 : Cond.methodLink RX5 (145) yX5_learnFromClue ∈ TB := TBm 935 (by decide +kernel) rfl
theorem q936 : Cond.methodLink RL (150) yX7_differences ∈ TB := TBm 936 (by decide +kernel) rfl
theorem q937 : Cond.instanceMethod yX7_differences ∈ TB := TBm 937 (by decide +kernel) rfl
theorem q938 : Cond.selects RX7 yX7_differences yX7_differences ∈ TB := TBm 938 (by decide +kernel) rfl
theorem q939 : Cond.code yX7_differences cX7_differences 2 (some .int) ∈ TB := TBm 939 (by decide +kernel) rfl
theorem q940 : Cond.methodLink RX7 (359) yX5_propsAway ∈ TB := TBm 940 (by decide +kernel) rfl
theorem q941 : Cond.methodLink RX7 (362) yX5_paleClues ∈ TB := TBm 941 (by decide +kernel) rfl
theorem q942 : Cond.instanceMethod yX5_paleClues ∈ TB := TBm 942 (by decide +kernel) rfl
theorem q943 : Cond.selects RX5 yX5_paleClues yX5_paleClues ∈ TB := TBm 943 (by decide +kernel) rfl
theorem q944 : Cond.code yX5_paleClues cX5_paleClues 3 (some .int) ∈ TB := TBm 944 (by decide +kernel) rfl
theorem q945 : Cond.methodLink RX7 (365) yX6_resetPaint ∈ TB := TBm 945 (by decide +kernel) rfl
theorem q946 : Cond.instanceMethod yX6_resetPaint ∈ TB := TBm 946 (by decide +kernel) rfl
theorem q947 : Cond.selects RX6 yX6_resetPaint yX6_resetPaint ∈ TB := TBm 947 (by decide +kernel) rfl
theorem q948 : Cond.code yX6_resetPaint cX6_resetPaint 4 (some .int) ∈ TB := TBm 948 (by decide +kernel) rfl
theorem q949 : Cond.methodLink RL (154) yX7_logAt ∈ TB := TBm 949 (by decide +kernel) rfl
theorem q950 : Cond.instanceMethod yX7_logAt ∈ TB := TBm 950 (by decide +kernel) rfl
theorem q951 : Cond.selects RX7 yX7_logAt yX7_logAt ∈ TB := TBm 951 (by decide +kernel) rfl
theorem q952 : Cond.code yX7_logAt cX7_logAt 2 (some .int) ∈ TB := TBm 952 (by decide +kernel) rfl
theorem q953 : Cond.methodLink RL (158) yX7_count ∈ TB := TBm 953 (by decide +kernel) rfl
theorem q954 : Cond.instanceMethod yX7_count ∈ TB := TBm 954 (by decide +kernel) rfl
theorem q955 : Cond.selects RX7 yX7_count yX7_count ∈ TB := TBm 955 (by decide +kernel) rfl
theorem q956 : Cond.code yX7_count cX7_count 2 (some .int) ∈ TB := TBm 956 (by decide +kernel) rfl
theorem q957 : Cond.methodLink RX7 (376) yX3_waitingBefore ∈ TB := TBm 957 (by decide +kernel) rfl
theorem q958 : Cond.instanceMethod yX3_waitingBefore ∈ TB := TBm 958 (by decide +kernel) rfl
theorem q959 : Cond.selects RX3 yX3_waitingBefore yX3_waitingBefore ∈ TB := TBm 959 (by decide +kernel) rfl
theorem q960 : Cond.code yX3_waitingBefore cX3_waitingBefore 4 (some .int) ∈ TB := TBm 960 (by decide +kernel) rfl
theorem q961 : Cond.methodLink RX7 (379) yX4_wins ∈ TB := TBm 961 (by decide +kernel) rfl
theorem q962 : Cond.instanceMethod yX4_wins ∈ TB := TBm 962 (by decide +kernel) rfl
theorem q963 : Cond.selects RX4 yX4_wins yX4_wins ∈ TB := TBm 963 (by decide +kernel) rfl
theorem q964 : Cond.code yX4_wins cX4_wins 3 (some .int) ∈ TB := TBm 964 (by decide +kernel) rfl
theorem q966 : Cond.classLink RL (10) RX8 ∈ TB := TBm 966 (by decide +kernel) rfl
theorem q967 : Cond.instantiable RX8 (14) ∈ TB := TBm 967 (by decide +kernel) rfl
theorem q968 : Cond.methodLink RL (12) yX8_init ∈ TB := TBm 968 (by decide +kernel) rfl
theorem q969 : Cond.instanceMethod yX8_init ∈ TB := TBm 969 (by decide +kernel) rfl
theorem q970 : Cond.code yX8_init cX8_init 1 none ∈ TB := TBm 970 (by decide +kernel) rfl
theorem q971 : Cond.methodLink RX8 (1) objectInit ∈ TB := TBm 971 (by decide +kernel) rfl
theorem q972 : Cond.fieldLink RX8 (7) RX8 "row" "[I" ∈ TB := TBm 972 (by decide +kernel) rfl
theorem q973 : Cond.fieldLink RX8 (13) RX8 "aside" "[I" ∈ TB := TBm 973 (by decide +kernel) rfl
theorem q974 : Cond.fieldLink RX8 (16) RX8 "slots" "[I" ∈ TB := TBm 974 (by decide +kernel) rfl
theorem q975 : Cond.fieldLink RX8 (19) RX8 "isKept" "[Z" ∈ TB := TBm 975 (by decide +kernel) rfl
theorem q976 : Cond.fieldLink RX8 (54) RX8 "typed" "I" ∈ TB := TBm 976 (by decide +kernel) rfl
theorem q977 : Cond.fieldLink RX8 (23) RX8 "text" "[C" ∈ TB := TBm 977 (by decide +kernel) rfl
theorem q978 : Cond.fieldLink RX8 (58) RX8 "at" "I" ∈ TB := TBm 978 (by decide +kernel) rfl
theorem q979 : Cond.fieldLink RX8 (61) RX8 "fails" "Z" ∈ TB := TBm 979 (by decide +kernel) rfl
theorem q980 : Cond.fieldLink RX8 (90) RX8 "readOuter" "I" ∈ TB := TBm 980 (by decide +kernel) rfl
theorem q981 : Cond.fieldLink RX8 (73) RX8 "readLock" "I" ∈ TB := TBm 981 (by decide +kernel) rfl
theorem q982 : Cond.fieldLink RX8 (84) RX8 "readArgument" "I" ∈ TB := TBm 982 (by decide +kernel) rfl
theorem q983 : Cond.fieldLink RX8 (171) RX8 "toldFor" "I" ∈ TB := TBm 983 (by decide +kernel) rfl
theorem q984 : Cond.fieldLink RX8 (27) RX8 "spelt" "[I" ∈ TB := TBm 984 (by decide +kernel) rfl
theorem q985 : Cond.fieldLink RX8 (214) RX8 "length" "I" ∈ TB := TBm 985 (by decide +kernel) rfl
theorem q1015 : Cond.arrayClass .boolean ∈ TB := TBm 1015 (by decide +kernel) rfl
theorem q1016 : Cond.arrayClass .char ∈ TB := TBm 1016 (by decide +kernel) rfl
theorem q1017 : Cond.methodLink RL (113) yX8_keep ∈ TB := TBm 1017 (by decide +kernel) rfl
theorem q1018 : Cond.instanceMethod yX8_keep ∈ TB := TBm 1018 (by decide +kernel) rfl
theorem q1019 : Cond.selects RX8 yX8_keep yX8_keep ∈ TB := TBm 1019 (by decide +kernel) rfl
theorem q1020 : Cond.code yX8_keep cX8_keep 3 (some .int) ∈ TB := TBm 1020 (by decide +kernel) rfl
theorem q1021 : Cond.methodLink RX8 (30) yX8_in ∈ TB := TBm 1021 (by decide +kernel) rfl
theorem q1022 : Cond.static yX8_in ∈ TB := TBm 1022 (by decide +kernel) rfl
theorem q1023 : Cond.code yX8_in cX8_in 3 (some .boolean) ∈ TB := TBm 1023 (by decide +kernel) rfl
theorem q1024 : Cond.methodLink RL (117) yX8_restore ∈ TB := TBm 1024 (by decide +kernel) rfl
theorem q1025 : Cond.instanceMethod yX8_restore ∈ TB := TBm 1025 (by decide +kernel) rfl
theorem q1026 : Cond.selects RX8 yX8_restore yX8_restore ∈ TB := TBm 1026 (by decide +kernel) rfl
theorem q1027 : Cond.code yX8_restore cX8_restore 3 (some .int) ∈ TB := TBm 1027 (by decide +kernel) rfl
theorem q1028 : Cond.methodLink RL (17) yX8_type ∈ TB := TBm 1028 (by decide +kernel) rfl
theorem q1029 : Cond.instanceMethod yX8_type ∈ TB := TBm 1029 (by decide +kernel) rfl
theorem q1030 : Cond.selects RX8 yX8_type yX8_type ∈ TB := TBm 1030 (by decide +kernel) rfl
theorem q1031 : Cond.code yX8_type cX8_type 2 (some .int) ∈ TB := TBm 1031 (by decide +kernel) rfl
theorem q1032 : Cond.methodLink RL (22) yX8_clearText ∈ TB := TBm 1032 (by decide +kernel) rfl
theorem q1033 : Cond.instanceMethod yX8_clearText ∈ TB := TBm 1033 (by decide +kernel) rfl
theorem q1034 : Cond.selects RX8 yX8_clearText yX8_clearText ∈ TB := TBm 1034 (by decide +kernel) rfl
theorem q1035 : Cond.code yX8_clearText cX8_clearText 2 (some .int) ∈ TB := TBm 1035 (by decide +kernel) rfl
theorem q1036 : Cond.methodLink RL (26) yX8_addBox ∈ TB := TBm 1036 (by decide +kernel) rfl
theorem q1037 : Cond.instanceMethod yX8_addBox ∈ TB := TBm 1037 (by decide +kernel) rfl
theorem q1038 : Cond.selects RX8 yX8_addBox yX8_addBox ∈ TB := TBm 1038 (by decide +kernel) rfl
theorem q1039 : Cond.code yX8_addBox cX8_addBox 4 (some .int) ∈ TB := TBm 1039 (by decide +kernel) rfl
theorem q1040 : Cond.methodLink RX8 (96) yX8_faultOfText ∈ TB := TBm 1040 (by decide +kernel) rfl
theorem q1042 : Cond.instanceMethod yX8_faultOfText ∈ TB := TBm 1042 (by decide +kernel) rfl
theorem q1043 : Cond.code yX8_faultOfText cX8_faultOfText 1 (some .int) ∈ TB := TBm 1043 (by decide +kernel) rfl
theorem q1044 : Cond.methodLink RX8 (87) yX8_number ∈ TB := TBm 1044 (by decide +kernel) rfl
theorem q1046 : Cond.instanceMethod yX8_number ∈ TB := TBm 1046 (by decide +kernel) rfl
theorem q1047 : Cond.code yX8_number cX8_number 5 (some .int) ∈ TB := TBm 1047 (by decide +kernel) rfl
theorem q1048 : Cond.methodLink RX8 (69) yX8_seesDigit ∈ TB := TBm 1048 (by decide +kernel) rfl
theorem q1050 : Cond.instanceMethod yX8_seesDigit ∈ TB := TBm 1050 (by decide +kernel) rfl
theorem q1051 : Cond.code yX8_seesDigit cX8_seesDigit 1 (some .boolean) ∈ TB := TBm 1051 (by decide +kernel) rfl
theorem q1052 : Cond.methodLink RX8 (65) yX8_sees ∈ TB := TBm 1052 (by decide +kernel) rfl
theorem q1054 : Cond.instanceMethod yX8_sees ∈ TB := TBm 1054 (by decide +kernel) rfl
theorem q1055 : Cond.code yX8_sees cX8_sees 1 (some .int) ∈ TB := TBm 1055 (by decide +kernel) rfl
theorem q1056 : Cond.methodLink RX8 (80) yX8_takes ∈ TB := TBm 1056 (by decide +kernel) rfl
theorem q1058 : Cond.instanceMethod yX8_takes ∈ TB := TBm 1058 (by decide +kernel) rfl
theorem q1059 : Cond.code yX8_takes cX8_takes 2 none ∈ TB := TBm 1059 (by decide +kernel) rfl
theorem q1060 : Cond.methodLink RX8 (93) yX8_readsLock ∈ TB := TBm 1060 (by decide +kernel) rfl
theorem q1062 : Cond.instanceMethod yX8_readsLock ∈ TB := TBm 1062 (by decide +kernel) rfl
theorem q1063 : Cond.code yX8_readsLock cX8_readsLock 2 none ∈ TB := TBm 1063 (by decide +kernel) rfl
theorem q1064 : Cond.methodLink RX8 (76) yX8_lockLetter ∈ TB := TBm 1064 (by decide +kernel) rfl
theorem q1065 : Cond.static yX8_lockLetter ∈ TB := TBm 1065 (by decide +kernel) rfl
theorem q1066 : Cond.code yX8_lockLetter cX8_lockLetter 2 (some .int) ∈ TB := TBm 1066 (by decide +kernel) rfl
theorem q1067 : Cond.methodLink RX8 (99) yX8_noBox ∈ TB := TBm 1067 (by decide +kernel) rfl
theorem q1069 : Cond.instanceMethod yX8_noBox ∈ TB := TBm 1069 (by decide +kernel) rfl
theorem q1070 : Cond.code yX8_noBox cX8_noBox 2 (some .boolean) ∈ TB := TBm 1070 (by decide +kernel) rfl
theorem q1071 : Cond.methodLink RX8 (102) yX8_noProp ∈ TB := TBm 1071 (by decide +kernel) rfl
theorem q1073 : Cond.instanceMethod yX8_noProp ∈ TB := TBm 1073 (by decide +kernel) rfl
theorem q1074 : Cond.code yX8_noProp cX8_noProp 2 (some .boolean) ∈ TB := TBm 1074 (by decide +kernel) rfl
theorem q1075 : Cond.methodLink RX8 (105) yX8_plays ∈ TB := TBm 1075 (by decide +kernel) rfl
theorem q1077 : Cond.instanceMethod yX8_plays ∈ TB := TBm 1077 (by decide +kernel) rfl
theorem q1078 : Cond.code yX8_plays cX8_plays 1 (some .boolean) ∈ TB := TBm 1078 (by decide +kernel) rfl
theorem q1079 : Cond.methodLink RL (31) yX8_addProp ∈ TB := TBm 1079 (by decide +kernel) rfl
theorem q1080 : Cond.instanceMethod yX8_addProp ∈ TB := TBm 1080 (by decide +kernel) rfl
theorem q1081 : Cond.selects RX8 yX8_addProp yX8_addProp ∈ TB := TBm 1081 (by decide +kernel) rfl
theorem q1082 : Cond.code yX8_addProp cX8_addProp 3 (some .int) ∈ TB := TBm 1082 (by decide +kernel) rfl
theorem q1083 : Cond.methodLink RL (36) yX8_addClue ∈ TB := TBm 1083 (by decide +kernel) rfl
theorem q1084 : Cond.instanceMethod yX8_addClue ∈ TB := TBm 1084 (by decide +kernel) rfl
theorem q1085 : Cond.selects RX8 yX8_addClue yX8_addClue ∈ TB := TBm 1085 (by decide +kernel) rfl
theorem q1086 : Cond.code yX8_addClue cX8_addClue 5 (some .int) ∈ TB := TBm 1086 (by decide +kernel) rfl
theorem q1087 : Cond.methodLink RL (40) yX8_setExit ∈ TB := TBm 1087 (by decide +kernel) rfl
theorem q1088 : Cond.instanceMethod yX8_setExit ∈ TB := TBm 1088 (by decide +kernel) rfl
theorem q1089 : Cond.selects RX8 yX8_setExit yX8_setExit ∈ TB := TBm 1089 (by decide +kernel) rfl
theorem q1090 : Cond.code yX8_setExit cX8_setExit 3 (some .int) ∈ TB := TBm 1090 (by decide +kernel) rfl
theorem q1091 : Cond.methodLink RL (45) yX8_setLimits ∈ TB := TBm 1091 (by decide +kernel) rfl
theorem q1092 : Cond.instanceMethod yX8_setLimits ∈ TB := TBm 1092 (by decide +kernel) rfl
theorem q1093 : Cond.selects RX8 yX8_setLimits yX8_setLimits ∈ TB := TBm 1093 (by decide +kernel) rfl
theorem q1094 : Cond.code yX8_setLimits cX8_setLimits 5 (some .int) ∈ TB := TBm 1094 (by decide +kernel) rfl
theorem q1095 : Cond.methodLink RL (49) yX8_addPaint ∈ TB := TBm 1095 (by decide +kernel) rfl
theorem q1096 : Cond.instanceMethod yX8_addPaint ∈ TB := TBm 1096 (by decide +kernel) rfl
theorem q1097 : Cond.selects RX8 yX8_addPaint yX8_addPaint ∈ TB := TBm 1097 (by decide +kernel) rfl
theorem q1098 : Cond.code yX8_addPaint cX8_addPaint 2 (some .int) ∈ TB := TBm 1098 (by decide +kernel) rfl
theorem q1099 : Cond.methodLink RL (53) yX8_book ∈ TB := TBm 1099 (by decide +kernel) rfl
theorem q1100 : Cond.instanceMethod yX8_book ∈ TB := TBm 1100 (by decide +kernel) rfl
theorem q1101 : Cond.selects RX8 yX8_book yX8_book ∈ TB := TBm 1101 (by decide +kernel) rfl
theorem q1102 : Cond.code yX8_book cX8_book 4 (some .int) ∈ TB := TBm 1102 (by decide +kernel) rfl
theorem q1103 : Cond.constant RX8 (108) (100000) ∈ TB := TBm 1103 (by decide +kernel) rfl
theorem q1104 : Cond.methodLink RL (57) yX8_cancel ∈ TB := TBm 1104 (by decide +kernel) rfl
theorem q1105 : Cond.instanceMethod yX8_cancel ∈ TB := TBm 1105 (by decide +kernel) rfl
theorem q1106 : Cond.selects RX8 yX8_cancel yX8_cancel ∈ TB := TBm 1106 (by decide +kernel) rfl
theorem q1107 : Cond.code yX8_cancel cX8_cancel 2 (some .int) ∈ TB := TBm 1107 (by decide +kernel) rfl
theorem q1108 : Cond.methodLink RX8 (109) yX8_noGroup ∈ TB := TBm 1108 (by decide +kernel) rfl
theorem q1110 : Cond.instanceMethod yX8_noGroup ∈ TB := TBm 1110 (by decide +kernel) rfl
theorem q1111 : Cond.code yX8_noGroup cX8_noGroup 2 (some .boolean) ∈ TB := TBm 1111 (by decide +kernel) rfl
theorem q1112 : Cond.methodLink RX8 (112) yX8_removeGroup ∈ TB := TBm 1112 (by decide +kernel) rfl
theorem q1114 : Cond.instanceMethod yX8_removeGroup ∈ TB := TBm 1114 (by decide +kernel) rfl
theorem q1115 : Cond.code yX8_removeGroup cX8_removeGroup 3 none ∈ TB := TBm 1115 (by decide +kernel) rfl
theorem q1116 : Cond.methodLink RL (61) yX8_startGame ∈ TB := TBm 1116 (by decide +kernel) rfl
theorem q1117 : Cond.instanceMethod yX8_startGame ∈ TB := TBm 1117 (by decide +kernel) rfl
theorem q1118 : Cond.selects RX8 yX8_startGame yX8_startGame ∈ TB := TBm 1118 (by decide +kernel) rfl
theorem q1119 : Cond.code yX8_startGame cX8_startGame 2 (some .int) ∈ TB := TBm 1119 (by decide +kernel) rfl
theorem q1120 : Cond.methodLink RX8 (34) yX8_isOpen ∈ TB := TBm 1120 (by decide +kernel) rfl
theorem q1122 : Cond.instanceMethod yX8_isOpen ∈ TB := TBm 1122 (by decide +kernel) rfl
theorem q1123 : Cond.code yX8_isOpen cX8_isOpen 2 (some .boolean) ∈ TB := TBm 1123 (by decide +kernel) rfl
theorem q1124 : Cond.methodLink RX8 (115) yX8_pass ∈ TB := TBm 1124 (by decide +kernel) rfl
theorem q1126 : Cond.instanceMethod yX8_pass ∈ TB := TBm 1126 (by decide +kernel) rfl
theorem q1127 : Cond.code yX8_pass cX8_pass 5 none ∈ TB := TBm 1127 (by decide +kernel) rfl
theorem q1128 : Cond.methodLink RX8 (51) yX8_clueAtHand ∈ TB := TBm 1128 (by decide +kernel) rfl
theorem q1130 : Cond.instanceMethod yX8_clueAtHand ∈ TB := TBm 1130 (by decide +kernel) rfl
theorem q1131 : Cond.code yX8_clueAtHand cX8_clueAtHand 2 (some .boolean) ∈ TB := TBm 1131 (by decide +kernel) rfl
theorem q1132 : Cond.methodLink RX8 (48) yX8_propAtHand ∈ TB := TBm 1132 (by decide +kernel) rfl
theorem q1134 : Cond.instanceMethod yX8_propAtHand ∈ TB := TBm 1134 (by decide +kernel) rfl
theorem q1135 : Cond.code yX8_propAtHand cX8_propAtHand 2 (some .boolean) ∈ TB := TBm 1135 (by decide +kernel) rfl
theorem q1136 : Cond.methodLink RX8 (45) yX8_isHeld ∈ TB := TBm 1136 (by decide +kernel) rfl
theorem q1138 : Cond.instanceMethod yX8_isHeld ∈ TB := TBm 1138 (by decide +kernel) rfl
theorem q1139 : Cond.code yX8_isHeld cX8_isHeld 2 (some .boolean) ∈ TB := TBm 1139 (by decide +kernel) rfl
theorem q1140 : Cond.methodLink RX8 (38) yX8_closedFrom ∈ TB := TBm 1140 (by decide +kernel) rfl
theorem q1142 : Cond.instanceMethod yX8_closedFrom ∈ TB := TBm 1142 (by decide +kernel) rfl
theorem q1143 : Cond.code yX8_closedFrom cX8_closedFrom 4 (some .int) ∈ TB := TBm 1143 (by decide +kernel) rfl
theorem q1144 : Cond.methodLink RX8 (118) yX8_notAtHome ∈ TB := TBm 1144 (by decide +kernel) rfl
theorem q1146 : Cond.instanceMethod yX8_notAtHome ∈ TB := TBm 1146 (by decide +kernel) rfl
theorem q1147 : Cond.code yX8_notAtHome cX8_notAtHome 3 (some .int) ∈ TB := TBm 1147 (by decide +kernel) rfl
theorem q1148 : Cond.methodLink RX8 (121) yX8_openOnes ∈ TB := TBm 1148 (by decide +kernel) rfl
theorem q1150 : Cond.instanceMethod yX8_openOnes ∈ TB := TBm 1150 (by decide +kernel) rfl
theorem q1151 : Cond.code yX8_openOnes cX8_openOnes 3 (some .int) ∈ TB := TBm 1151 (by decide +kernel) rfl
theorem q1152 : Cond.methodLink RL (65) yX8_take ∈ TB := TBm 1152 (by decide +kernel) rfl
theorem q1153 : Cond.instanceMethod yX8_take ∈ TB := TBm 1153 (by decide +kernel) rfl
theorem q1154 : Cond.selects RX8 yX8_take yX8_take ∈ TB := TBm 1154 (by decide +kernel) rfl
theorem q1155 : Cond.code yX8_take cX8_take 2 (some .int) ∈ TB := TBm 1155 (by decide +kernel) rfl
theorem q1156 : Cond.methodLink RX8 (137) yX8_held ∈ TB := TBm 1156 (by decide +kernel) rfl
theorem q1158 : Cond.instanceMethod yX8_held ∈ TB := TBm 1158 (by decide +kernel) rfl
theorem q1159 : Cond.code yX8_held cX8_held 3 (some .int) ∈ TB := TBm 1159 (by decide +kernel) rfl
theorem q1160 : Cond.methodLink RX8 (124) yX8_lessHalf ∈ TB := TBm 1160 (by decide +kernel) rfl
theorem q1162 : Cond.instanceMethod yX8_lessHalf ∈ TB := TBm 1162 (by decide +kernel) rfl
theorem q1163 : Cond.code yX8_lessHalf cX8_lessHalf 3 (some .int) ∈ TB := TBm 1163 (by decide +kernel) rfl
theorem q1164 : Cond.methodLink RX8 (140) yX8_isOver ∈ TB := TBm 1164 (by decide +kernel) rfl
theorem q1166 : Cond.instanceMethod yX8_isOver ∈ TB := TBm 1166 (by decide +kernel) rfl
theorem q1167 : Cond.code yX8_isOver cX8_isOver 2 (some .boolean) ∈ TB := TBm 1167 (by decide +kernel) rfl
theorem q1168 : Cond.methodLink RX8 (127) yX8_minutesLeft ∈ TB := TBm 1168 (by decide +kernel) rfl
theorem q1170 : Cond.instanceMethod yX8_minutesLeft ∈ TB := TBm 1170 (by decide +kernel) rfl
theorem q1171 : Cond.code yX8_minutesLeft cX8_minutesLeft 1 (some .int) ∈ TB := TBm 1171 (by decide +kernel) rfl
theorem q1172 : Cond.methodLink RX8 (130) yX8_note ∈ TB := TBm 1172 (by decide +kernel) rfl
theorem q1174 : Cond.instanceMethod yX8_note ∈ TB := TBm 1174 (by decide +kernel) rfl
theorem q1175 : Cond.code yX8_note cX8_note 5 none ∈ TB := TBm 1175 (by decide +kernel) rfl
theorem q1176 : Cond.methodLink RX8 (134) yX8_end ∈ TB := TBm 1176 (by decide +kernel) rfl
theorem q1178 : Cond.instanceMethod yX8_end ∈ TB := TBm 1178 (by decide +kernel) rfl
theorem q1179 : Cond.code yX8_end cX8_end 3 none ∈ TB := TBm 1179 (by decide +kernel) rfl
theorem q1180 : Cond.methodLink RL (69) yX8_lay ∈ TB := TBm 1180 (by decide +kernel) rfl
theorem q1181 : Cond.instanceMethod yX8_lay ∈ TB := TBm 1181 (by decide +kernel) rfl
theorem q1182 : Cond.selects RX8 yX8_lay yX8_lay ∈ TB := TBm 1182 (by decide +kernel) rfl
theorem q1183 : Cond.code yX8_lay cX8_lay 3 (some .int) ∈ TB := TBm 1183 (by decide +kernel) rfl
theorem q1184 : Cond.methodLink RX8 (143) yX8_boxAtHand ∈ TB := TBm 1184 (by decide +kernel) rfl
theorem q1186 : Cond.instanceMethod yX8_boxAtHand ∈ TB := TBm 1186 (by decide +kernel) rfl
theorem q1187 : Cond.code yX8_boxAtHand cX8_boxAtHand 2 (some .boolean) ∈ TB := TBm 1187 (by decide +kernel) rfl
theorem q1188 : Cond.methodLink RX8 (42) yX8_closedAround ∈ TB := TBm 1188 (by decide +kernel) rfl
theorem q1190 : Cond.instanceMethod yX8_closedAround ∈ TB := TBm 1190 (by decide +kernel) rfl
theorem q1191 : Cond.code yX8_closedAround cX8_closedAround 2 (some .int) ∈ TB := TBm 1191 (by decide +kernel) rfl
theorem q1192 : Cond.methodLink RL (73) yX8_open ∈ TB := TBm 1192 (by decide +kernel) rfl
theorem q1193 : Cond.instanceMethod yX8_open ∈ TB := TBm 1193 (by decide +kernel) rfl
theorem q1194 : Cond.selects RX8 yX8_open yX8_open ∈ TB := TBm 1194 (by decide +kernel) rfl
theorem q1195 : Cond.code yX8_open cX8_open 5 (some .int) ∈ TB := TBm 1195 (by decide +kernel) rfl
theorem q1196 : Cond.methodLink RX8 (146) yX8_lets ∈ TB := TBm 1196 (by decide +kernel) rfl
theorem q1198 : Cond.instanceMethod yX8_lets ∈ TB := TBm 1198 (by decide +kernel) rfl
theorem q1199 : Cond.code yX8_lets cX8_lets 4 (some .boolean) ∈ TB := TBm 1199 (by decide +kernel) rfl
theorem q1200 : Cond.methodLink RL (77) yX8_read ∈ TB := TBm 1200 (by decide +kernel) rfl
theorem q1201 : Cond.instanceMethod yX8_read ∈ TB := TBm 1201 (by decide +kernel) rfl
theorem q1202 : Cond.selects RX8 yX8_read yX8_read ∈ TB := TBm 1202 (by decide +kernel) rfl
theorem q1203 : Cond.code yX8_read cX8_read 3 (some .int) ∈ TB := TBm 1203 (by decide +kernel) rfl
theorem q1204 : Cond.methodLink RX8 (149) yX8_noClue ∈ TB := TBm 1204 (by decide +kernel) rfl
theorem q1206 : Cond.instanceMethod yX8_noClue ∈ TB := TBm 1206 (by decide +kernel) rfl
theorem q1207 : Cond.code yX8_noClue cX8_noClue 2 (some .boolean) ∈ TB := TBm 1207 (by decide +kernel) rfl
theorem q1208 : Cond.methodLink RX8 (152) yX8_readMinutes ∈ TB := TBm 1208 (by decide +kernel) rfl
theorem q1210 : Cond.instanceMethod yX8_readMinutes ∈ TB := TBm 1210 (by decide +kernel) rfl
theorem q1211 : Cond.code yX8_readMinutes cX8_readMinutes 3 (some .int) ∈ TB := TBm 1211 (by decide +kernel) rfl
theorem q1212 : Cond.methodLink RX8 (155) yX8_learn ∈ TB := TBm 1212 (by decide +kernel) rfl
theorem q1214 : Cond.instanceMethod yX8_learn ∈ TB := TBm 1214 (by decide +kernel) rfl
theorem q1215 : Cond.code yX8_learn cX8_learn 2 none ∈ TB := TBm 1215 (by decide +kernel) rfl
theorem q1216 : Cond.methodLink RX8 (158) yX8_digitOf ∈ TB := TBm 1216 (by decide +kernel) rfl
theorem q1218 : Cond.instanceMethod yX8_digitOf ∈ TB := TBm 1218 (by decide +kernel) rfl
theorem q1219 : Cond.code yX8_digitOf cX8_digitOf 4 (some .int) ∈ TB := TBm 1219 (by decide +kernel) rfl
theorem q1220 : Cond.methodLink RL (81) yX8_rest ∈ TB := TBm 1220 (by decide +kernel) rfl
theorem q1221 : Cond.instanceMethod yX8_rest ∈ TB := TBm 1221 (by decide +kernel) rfl
theorem q1222 : Cond.selects RX8 yX8_rest yX8_rest ∈ TB := TBm 1222 (by decide +kernel) rfl
theorem q1223 : Cond.code yX8_rest cX8_rest 2 (some .int) ∈ TB := TBm 1223 (by decide +kernel) rfl
theorem q1224 : Cond.methodLink RL (145) yX8_nextStep ∈ TB := TBm 1224 (by decide +kernel) rfl
theorem q1225 : Cond.instanceMethod yX8_nextStep ∈ TB := TBm 1225 (by decide +kernel) rfl
theorem q1226 : Cond.selects RX8 yX8_nextStep yX8_nextStep ∈ TB := TBm 1226 (by decide +kernel) rfl
theorem q1227 : Cond.code yX8_nextStep cX8_nextStep 1 (some .int) ∈ TB := TBm 1227 (by decide +kernel) rfl
theorem q1228 : Cond.methodLink RX8 (180) yX8_step ∈ TB := TBm 1228 (by decide +kernel) rfl
theorem q1230 : Cond.instanceMethod yX8_step ∈ TB := TBm 1230 (by decide +kernel) rfl
theorem q1231 : Cond.code yX8_step cX8_step 5 (some .int) ∈ TB := TBm 1231 (by decide +kernel) rfl
theorem q1232 : Cond.methodLink RX8 (177) yX8_stepFor ∈ TB := TBm 1232 (by decide +kernel) rfl
theorem q1234 : Cond.instanceMethod yX8_stepFor ∈ TB := TBm 1234 (by decide +kernel) rfl
theorem q1235 : Cond.code yX8_stepFor cX8_stepFor 6 (some .int) ∈ TB := TBm 1235 (by decide +kernel) rfl
theorem q1236 : Cond.methodLink RX8 (164) yX8_lowestUnknown ∈ TB := TBm 1236 (by decide +kernel) rfl
theorem q1238 : Cond.instanceMethod yX8_lowestUnknown ∈ TB := TBm 1238 (by decide +kernel) rfl
theorem q1239 : Cond.code yX8_lowestUnknown cX8_lowestUnknown 3 (some .int) ∈ TB := TBm 1239 (by decide +kernel) rfl
theorem q1240 : Cond.methodLink RX8 (167) yX8_clueFor ∈ TB := TBm 1240 (by decide +kernel) rfl
theorem q1242 : Cond.instanceMethod yX8_clueFor ∈ TB := TBm 1242 (by decide +kernel) rfl
theorem q1243 : Cond.code yX8_clueFor cX8_clueFor 7 (some .int) ∈ TB := TBm 1243 (by decide +kernel) rfl
theorem q1244 : Cond.methodLink RX8 (174) yX8_stepToHold ∈ TB := TBm 1244 (by decide +kernel) rfl
theorem q1246 : Cond.instanceMethod yX8_stepToHold ∈ TB := TBm 1246 (by decide +kernel) rfl
theorem q1247 : Cond.code yX8_stepToHold cX8_stepToHold 2 (some .int) ∈ TB := TBm 1247 (by decide +kernel) rfl
theorem q1248 : Cond.methodLink RX8 (161) yX8_lowestHeld ∈ TB := TBm 1248 (by decide +kernel) rfl
theorem q1250 : Cond.instanceMethod yX8_lowestHeld ∈ TB := TBm 1250 (by decide +kernel) rfl
theorem q1251 : Cond.code yX8_lowestHeld cX8_lowestHeld 2 (some .int) ∈ TB := TBm 1251 (by decide +kernel) rfl
theorem q1252 : Cond.methodLink RL (85) yX8_nudge ∈ TB := TBm 1252 (by decide +kernel) rfl
theorem q1253 : Cond.instanceMethod yX8_nudge ∈ TB := TBm 1253 (by decide +kernel) rfl
theorem q1254 : Cond.selects RX8 yX8_nudge yX8_nudge ∈ TB := TBm 1254 (by decide +kernel) rfl
theorem q1255 : Cond.code yX8_nudge cX8_nudge 2 (some .int) ∈ TB := TBm 1255 (by decide +kernel) rfl
theorem q1256 : Cond.methodLink RL (89) yX8_giveUp ∈ TB := TBm 1256 (by decide +kernel) rfl
theorem q1257 : Cond.instanceMethod yX8_giveUp ∈ TB := TBm 1257 (by decide +kernel) rfl
theorem q1258 : Cond.selects RX8 yX8_giveUp yX8_giveUp ∈ TB := TBm 1258 (by decide +kernel) rfl
theorem q1259 : Cond.code yX8_giveUp cX8_giveUp 2 (some .int) ∈ TB := TBm 1259 (by decide +kernel) rfl
theorem q1260 : Cond.methodLink RL (149) yX8_plan ∈ TB := TBm 1260 (by decide +kernel) rfl
theorem q1261 : Cond.instanceMethod yX8_plan ∈ TB := TBm 1261 (by decide +kernel) rfl
theorem q1262 : Cond.selects RX8 yX8_plan yX8_plan ∈ TB := TBm 1262 (by decide +kernel) rfl
theorem q1263 : Cond.code yX8_plan cX8_plan 4 (some .int) ∈ TB := TBm 1263 (by decide +kernel) rfl
theorem q1264 : Cond.methodLink RX8 (183) yX8_planned ∈ TB := TBm 1264 (by decide +kernel) rfl
theorem q1266 : Cond.instanceMethod yX8_planned ∈ TB := TBm 1266 (by decide +kernel) rfl
theorem q1267 : Cond.code yX8_planned cX8_planned 5 (some .int) ∈ TB := TBm 1267 (by decide +kernel) rfl
theorem q1268 : Cond.methodLink RL (93) yX8_idle ∈ TB := TBm 1268 (by decide +kernel) rfl
theorem q1269 : Cond.instanceMethod yX8_idle ∈ TB := TBm 1269 (by decide +kernel) rfl
theorem q1270 : Cond.selects RX8 yX8_idle yX8_idle ∈ TB := TBm 1270 (by decide +kernel) rfl
theorem q1271 : Cond.code yX8_idle cX8_idle 2 (some .int) ∈ TB := TBm 1271 (by decide +kernel) rfl
theorem q1272 : Cond.methodLink RL (97) yX8_putHome ∈ TB := TBm 1272 (by decide +kernel) rfl
theorem q1273 : Cond.instanceMethod yX8_putHome ∈ TB := TBm 1273 (by decide +kernel) rfl
theorem q1274 : Cond.selects RX8 yX8_putHome yX8_putHome ∈ TB := TBm 1274 (by decide +kernel) rfl
theorem q1275 : Cond.code yX8_putHome cX8_putHome 3 (some .int) ∈ TB := TBm 1275 (by decide +kernel) rfl
theorem q1276 : Cond.methodLink RL (101) yX8_close ∈ TB := TBm 1276 (by decide +kernel) rfl
theorem q1277 : Cond.instanceMethod yX8_close ∈ TB := TBm 1277 (by decide +kernel) rfl
theorem q1278 : Cond.selects RX8 yX8_close yX8_close ∈ TB := TBm 1278 (by decide +kernel) rfl
theorem q1279 : Cond.code yX8_close cX8_close 2 (some .int) ∈ TB := TBm 1279 (by decide +kernel) rfl
theorem q1280 : Cond.methodLink RL (105) yX8_writeOver ∈ TB := TBm 1280 (by decide +kernel) rfl
theorem q1281 : Cond.instanceMethod yX8_writeOver ∈ TB := TBm 1281 (by decide +kernel) rfl
theorem q1282 : Cond.selects RX8 yX8_writeOver yX8_writeOver ∈ TB := TBm 1282 (by decide +kernel) rfl
theorem q1283 : Cond.code yX8_writeOver cX8_writeOver 3 (some .int) ∈ TB := TBm 1283 (by decide +kernel) rfl
theorem q1284 : Cond.methodLink RL (109) yX8_reset ∈ TB := TBm 1284 (by decide +kernel) rfl
theorem q1285 : Cond.instanceMethod yX8_reset ∈ TB := TBm 1285 (by decide +kernel) rfl
theorem q1286 : Cond.selects RX8 yX8_reset yX8_reset ∈ TB := TBm 1286 (by decide +kernel) rfl
theorem q1287 : Cond.code yX8_reset cX8_reset 3 (some .int) ∈ TB := TBm 1287 (by decide +kernel) rfl
theorem q1288 : Cond.methodLink RX8 (190) yX8_resetMinutes ∈ TB := TBm 1288 (by decide +kernel) rfl
theorem q1290 : Cond.instanceMethod yX8_resetMinutes ∈ TB := TBm 1290 (by decide +kernel) rfl
theorem q1291 : Cond.code yX8_resetMinutes cX8_resetMinutes 1 (some .int) ∈ TB := TBm 1291 (by decide +kernel) rfl
theorem q1292 : Cond.methodLink RX8 (186) yX8_written ∈ TB := TBm 1292 (by decide +kernel) rfl
theorem q1294 : Cond.instanceMethod yX8_written ∈ TB := TBm 1294 (by decide +kernel) rfl
theorem q1295 : Cond.code yX8_written cX8_written 7 (some .int) ∈ TB := TBm 1295 (by decide +kernel) rfl
theorem q1296 : Cond.methodLink RL (121) yX8_box ∈ TB := TBm 1296 (by decide +kernel) rfl
theorem q1297 : Cond.instanceMethod yX8_box ∈ TB := TBm 1297 (by decide +kernel) rfl
theorem q1298 : Cond.selects RX8 yX8_box yX8_box ∈ TB := TBm 1298 (by decide +kernel) rfl
theorem q1299 : Cond.code yX8_box cX8_box 3 (some .int) ∈ TB := TBm 1299 (by decide +kernel) rfl
theorem q1300 : Cond.methodLink RX8 (193) yX8_propsIn ∈ TB := TBm 1300 (by decide +kernel) rfl
theorem q1302 : Cond.instanceMethod yX8_propsIn ∈ TB := TBm 1302 (by decide +kernel) rfl
theorem q1303 : Cond.code yX8_propsIn cX8_propsIn 4 (some .int) ∈ TB := TBm 1303 (by decide +kernel) rfl
theorem q1304 : Cond.methodLink RX8 (196) yX8_boxesIn ∈ TB := TBm 1304 (by decide +kernel) rfl
theorem q1306 : Cond.instanceMethod yX8_boxesIn ∈ TB := TBm 1306 (by decide +kernel) rfl
theorem q1307 : Cond.code yX8_boxesIn cX8_boxesIn 4 (some .int) ∈ TB := TBm 1307 (by decide +kernel) rfl
theorem q1308 : Cond.methodLink RL (125) yX8_prop ∈ TB := TBm 1308 (by decide +kernel) rfl
theorem q1309 : Cond.instanceMethod yX8_prop ∈ TB := TBm 1309 (by decide +kernel) rfl
theorem q1310 : Cond.selects RX8 yX8_prop yX8_prop ∈ TB := TBm 1310 (by decide +kernel) rfl
theorem q1311 : Cond.code yX8_prop cX8_prop 3 (some .int) ∈ TB := TBm 1311 (by decide +kernel) rfl
theorem q1312 : Cond.methodLink RX8 (199) yX8_cluesOn ∈ TB := TBm 1312 (by decide +kernel) rfl
theorem q1314 : Cond.instanceMethod yX8_cluesOn ∈ TB := TBm 1314 (by decide +kernel) rfl
theorem q1315 : Cond.code yX8_cluesOn cX8_cluesOn 4 (some .int) ∈ TB := TBm 1315 (by decide +kernel) rfl
theorem q1316 : Cond.methodLink RX8 (202) yX8_locksWith ∈ TB := TBm 1316 (by decide +kernel) rfl
theorem q1318 : Cond.instanceMethod yX8_locksWith ∈ TB := TBm 1318 (by decide +kernel) rfl
theorem q1319 : Cond.code yX8_locksWith cX8_locksWith 5 (some .int) ∈ TB := TBm 1319 (by decide +kernel) rfl
theorem q1320 : Cond.methodLink RL (129) yX8_clue ∈ TB := TBm 1320 (by decide +kernel) rfl
theorem q1321 : Cond.instanceMethod yX8_clue ∈ TB := TBm 1321 (by decide +kernel) rfl
theorem q1322 : Cond.selects RX8 yX8_clue yX8_clue ∈ TB := TBm 1322 (by decide +kernel) rfl
theorem q1323 : Cond.code yX8_clue cX8_clue 3 (some .int) ∈ TB := TBm 1323 (by decide +kernel) rfl
theorem q1324 : Cond.methodLink RL (133) yX8_game ∈ TB := TBm 1324 (by decide +kernel) rfl
theorem q1325 : Cond.instanceMethod yX8_game ∈ TB := TBm 1325 (by decide +kernel) rfl
theorem q1326 : Cond.selects RX8 yX8_game yX8_game ∈ TB := TBm 1326 (by decide +kernel) rfl
theorem q1327 : Cond.code yX8_game cX8_game 2 (some .int) ∈ TB := TBm 1327 (by decide +kernel) rfl
theorem q1328 : Cond.methodLink RX8 (205) yX8_heldSet ∈ TB := TBm 1328 (by decide +kernel) rfl
theorem q1330 : Cond.instanceMethod yX8_heldSet ∈ TB := TBm 1330 (by decide +kernel) rfl
theorem q1331 : Cond.code yX8_heldSet cX8_heldSet 3 (some .int) ∈ TB := TBm 1331 (by decide +kernel) rfl
theorem q1332 : Cond.methodLink RL (137) yX8_group ∈ TB := TBm 1332 (by decide +kernel) rfl
theorem q1333 : Cond.instanceMethod yX8_group ∈ TB := TBm 1333 (by decide +kernel) rfl
theorem q1334 : Cond.selects RX8 yX8_group yX8_group ∈ TB := TBm 1334 (by decide +kernel) rfl
theorem q1335 : Cond.code yX8_group cX8_group 3 (some .int) ∈ TB := TBm 1335 (by decide +kernel) rfl
theorem q1336 : Cond.methodLink RX8 (208) yX8_startOf ∈ TB := TBm 1336 (by decide +kernel) rfl
theorem q1338 : Cond.instanceMethod yX8_startOf ∈ TB := TBm 1338 (by decide +kernel) rfl
theorem q1339 : Cond.code yX8_startOf cX8_startOf 4 (some .int) ∈ TB := TBm 1339 (by decide +kernel) rfl
theorem q1340 : Cond.methodLink RL (141) yX8_result ∈ TB := TBm 1340 (by decide +kernel) rfl
theorem q1341 : Cond.instanceMethod yX8_result ∈ TB := TBm 1341 (by decide +kernel) rfl
theorem q1342 : Cond.selects RX8 yX8_result yX8_result ∈ TB := TBm 1342 (by decide +kernel) rfl
theorem q1343 : Cond.code yX8_result cX8_result 3 (some .int) ∈ TB := TBm 1343 (by decide +kernel) rfl
theorem q1344 : Cond.methodLink RL (153) yX8_differences ∈ TB := TBm 1344 (by decide +kernel) rfl
theorem q1345 : Cond.instanceMethod yX8_differences ∈ TB := TBm 1345 (by decide +kernel) rfl
theorem q1346 : Cond.selects RX8 yX8_differences yX8_differences ∈ TB := TBm 1346 (by decide +kernel) rfl
theorem q1347 : Cond.code yX8_differences cX8_differences 2 (some .int) ∈ TB := TBm 1347 (by decide +kernel) rfl
theorem q1348 : Cond.methodLink RX8 (211) yX8_faded ∈ TB := TBm 1348 (by decide +kernel) rfl
theorem q1350 : Cond.instanceMethod yX8_faded ∈ TB := TBm 1350 (by decide +kernel) rfl
theorem q1351 : Cond.code yX8_faded cX8_faded 3 (some .int) ∈ TB := TBm 1351 (by decide +kernel) rfl
theorem q1352 : Cond.methodLink RL (157) yX8_logAt ∈ TB := TBm 1352 (by decide +kernel) rfl
theorem q1353 : Cond.instanceMethod yX8_logAt ∈ TB := TBm 1353 (by decide +kernel) rfl
theorem q1354 : Cond.selects RX8 yX8_logAt yX8_logAt ∈ TB := TBm 1354 (by decide +kernel) rfl
theorem q1355 : Cond.code yX8_logAt cX8_logAt 4 (some .int) ∈ TB := TBm 1355 (by decide +kernel) rfl
theorem q1356 : Cond.methodLink RX8 (232) yX8_spell ∈ TB := TBm 1356 (by decide +kernel) rfl
theorem q1358 : Cond.instanceMethod yX8_spell ∈ TB := TBm 1358 (by decide +kernel) rfl
theorem q1359 : Cond.code yX8_spell cX8_spell 5 none ∈ TB := TBm 1359 (by decide +kernel) rfl
theorem q1360 : Cond.methodLink RX8 (220) yX8_putNumber ∈ TB := TBm 1360 (by decide +kernel) rfl
theorem q1362 : Cond.instanceMethod yX8_putNumber ∈ TB := TBm 1362 (by decide +kernel) rfl
theorem q1363 : Cond.code yX8_putNumber cX8_putNumber 3 none ∈ TB := TBm 1363 (by decide +kernel) rfl
theorem q1364 : Cond.methodLink RX8 (217) yX8_put ∈ TB := TBm 1364 (by decide +kernel) rfl
theorem q1366 : Cond.instanceMethod yX8_put ∈ TB := TBm 1366 (by decide +kernel) rfl
theorem q1367 : Cond.code yX8_put cX8_put 2 none ∈ TB := TBm 1367 (by decide +kernel) rfl
theorem q1368 : Cond.methodLink RX8 (223) yX8_lettersOf ∈ TB := TBm 1368 (by decide +kernel) rfl
theorem q1369 : Cond.static yX8_lettersOf ∈ TB := TBm 1369 (by decide +kernel) rfl
theorem q1370 : Cond.code yX8_lettersOf cX8_lettersOf 1 (some .int) ∈ TB := TBm 1370 (by decide +kernel) rfl
theorem q1371 : Cond.methodLink RX8 (226) yX8_wordLetter ∈ TB := TBm 1371 (by decide +kernel) rfl
theorem q1372 : Cond.static yX8_wordLetter ∈ TB := TBm 1372 (by decide +kernel) rfl
theorem q1373 : Cond.code yX8_wordLetter cX8_wordLetter 2 (some .int) ∈ TB := TBm 1373 (by decide +kernel) rfl
theorem q1374 : Cond.methodLink RX8 (229) yX8_argumentsOf ∈ TB := TBm 1374 (by decide +kernel) rfl
theorem q1375 : Cond.static yX8_argumentsOf ∈ TB := TBm 1375 (by decide +kernel) rfl
theorem q1376 : Cond.code yX8_argumentsOf cX8_argumentsOf 1 (some .int) ∈ TB := TBm 1376 (by decide +kernel) rfl
theorem q1377 : Cond.methodLink RL (161) yX8_count ∈ TB := TBm 1377 (by decide +kernel) rfl
theorem q1378 : Cond.instanceMethod yX8_count ∈ TB := TBm 1378 (by decide +kernel) rfl
theorem q1379 : Cond.selects RX8 yX8_count yX8_count ∈ TB := TBm 1379 (by decide +kernel) rfl
theorem q1380 : Cond.code yX8_count cX8_count 2 (some .int) ∈ TB := TBm 1380 (by decide +kernel) rfl
theorem q1381 : Cond.methodLink RX8 (235) yX8_behind ∈ TB := TBm 1381 (by decide +kernel) rfl
theorem q1383 : Cond.instanceMethod yX8_behind ∈ TB := TBm 1383 (by decide +kernel) rfl
theorem q1384 : Cond.code yX8_behind cX8_behind 3 (some .int) ∈ TB := TBm 1384 (by decide +kernel) rfl
theorem q1385 : Cond.methodLink RX8 (238) yX8_wins ∈ TB := TBm 1385 (by decide +kernel) rfl
theorem q1387 : Cond.instanceMethod yX8_wins ∈ TB := TBm 1387 (by decide +kernel) rfl
theorem q1388 : Cond.code yX8_wins cX8_wins 3 (some .int) ∈ TB := TBm 1388 (by decide +kernel) rfl
theorem q1389 : Cond.methodLink RX8 (241) yX8_logLength ∈ TB := TBm 1389 (by decide +kernel) rfl
theorem q1391 : Cond.instanceMethod yX8_logLength ∈ TB := TBm 1391 (by decide +kernel) rfl
theorem q1392 : Cond.code yX8_logLength cX8_logLength 3 (some .int) ∈ TB := TBm 1392 (by decide +kernel) rfl
theorem q1393 : Cond.fieldLink RJ0 (9) RJ0 "value" "[B" ∈ TB := TBm 1393 (by decide +kernel) rfl
theorem q1394 : Cond.fieldLink RJ0 (15) RJ0 "coder" "B" ∈ TB := TBm 1394 (by decide +kernel) rfl
end
section
def bz (x : Int32) : Int32 := x &&& 1
theorem bz_bz (x : Int32) : bz (bz x) = bz x := by unfold bz; rw [Int32.and_assoc]; rfl
theorem bz_nar (x : Int32) : narrow .boolean (.int (bz x)) = .int (bz x) := by show Value.int (bz x &&& 1) = _; rw [show bz x &&& 1 = bz (bz x) from rfl, bz_bz]
def cellRoom (cA : ClassId) (ad : Nat → Nat) (r j : Nat) (row : Nat → Int32) : va_E := match j with
  | 0 => .inr (5, [.int (row 0), .ref (ad (r + 1)), .ref (ad (r + 2)), .ref (ad (r + 3)), .ref (ad (r + 4)), .ref (ad (r + 5)), .int (row 6), .ref (ad (r + 6)), .ref (ad (r + 7)), .int (row 9), .ref (ad (r + 8)), .ref (ad (r + 9)), .ref (ad (r + 10)), .ref (ad (r + 11)), .int (row 14), .int (row 15)])
  | 6 => .inl (cA, 24, .inl row)
  | 7 => .inl (cA, 24, .inl row)
  | _ => .inl (cA, 12, .inl row)
def cellState (cA : ClassId) (ad : Nat → Nat) (t j : Nat) (row : Nat → Int32) : va_E := match j with
  | 0 => .inr (6, [.ref (ad (t + 1)), .ref (ad (t + 13)), .ref (ad (t + 16)), .ref (ad (t + 17)), .ref (ad (t + 19)), .int (row 5), .int (row 6), .int (row 7), .int (row 8)])
  | 13 => .inr (3, [.int (row 0), .ref (ad (t + 14)), .ref (ad (t + 15))])
  | 14 => .inl (cA, 8, .inl row)
  | 15 => .inl (cA, 8, .inl row)
  | 16 => .inr (1, [.int (bz (row 0)), .int (row 1), .int (row 2), .int (row 3), .int (row 4), .int (row 5), .int (row 6)])
  | 17 => .inr (4, [.int (row 0), .ref (ad (t + 18))])
  | 18 => .inl (cA, 210, .inl row)
  | 19 => .inr (2, [.int (row 0), .ref (ad (t + 20))])
  | 20 => .inl (cA, 2048, .inl row)
  | j => cellRoom cA ad (t + 1) (j - 1) row
def shX (cA : ClassId) (ad : Nat → Nat) (k : Nat) (row : Nat → Int32) : va_E :=
  if k = 0 then .inr (7, [.ref (ad 1), .ref (ad 3), .ref (ad 24), .ref (ad 45), .ref (ad 66), .int (row 5)])
  else if k = 1 then .inr (0, [.ref (ad 2), .int (row 1), .int (row 2), .int (row 3), .int (row 4), .int (row 5), .int (row 6)])
  else if k = 2 then .inl (cA, 20, .inl row)
  else if k < 24 then cellState cA ad 3 (k - 3) row
  else if k < 45 then cellState cA ad 24 (k - 24) row
  else if k < 66 then cellState cA ad 45 (k - 45) row
  else cellRoom cA ad 66 (k - 66) row
def shR (cA cZ cC : ClassId) (ad : Nat → Nat) (k : Nat) (row : Nat → Int32) : va_E := match k with
  | 0 => .inr (8, [.ref (ad 1), .ref (ad 2), .ref (ad 3), .ref (ad 4), .int (row 4), .ref (ad 5), .int (row 6), .int (bz (row 7)), .int (row 8), .int (row 9), .int (row 10), .int (row 11), .ref (ad 6), .int (row 13)])
  | 1 => .inl (cA, 902, .inl row)
  | 2 => .inl (cA, 902, .inl row)
  | 3 => .inl (cA, 1804, .inl row)
  | 4 => .inl (cZ, 2, .inl row)
  | 5 => .inl (cC, 20, .inl row)
  | _ => .inl (cA, 24, .inl row)
abbrev TY (cA cZ cC : ClassId) : List (ClassId × FieldType) := [(cA, .int), (cZ, .boolean), (cC, .char)]
def StA (k : Nat) : Prop := k = 3 ∨ k = 24 ∨ k = 45
theorem StA_3 : StA 3 := Or.inl rfl
theorem StA_24 : StA 24 := Or.inr (Or.inl rfl)
theorem StA_45 : StA 45 := Or.inr (Or.inr (rfl))
theorem StA.lt {k : Nat} (h : StA k) : k < 78 := by rcases h with rfl | rfl | rfl <;> decide
def RoA (k : Nat) : Prop := k = 4 ∨ k = 25 ∨ k = 46 ∨ k = 66
theorem RoA_4 : RoA 4 := Or.inl rfl
theorem RoA_25 : RoA 25 := Or.inr (Or.inl rfl)
theorem RoA_46 : RoA 46 := Or.inr (Or.inr (Or.inl rfl))
theorem RoA_66 : RoA 66 := Or.inr (Or.inr (Or.inr (rfl)))
theorem RoA.lt {k : Nat} (h : RoA k) : k < 78 := by rcases h with rfl | rfl | rfl | rfl <;> decide
def QuA (k : Nat) : Prop := k = 16 ∨ k = 37 ∨ k = 58
theorem QuA_16 : QuA 16 := Or.inl rfl
theorem QuA_37 : QuA 37 := Or.inr (Or.inl rfl)
theorem QuA_58 : QuA 58 := Or.inr (Or.inr (rfl))
theorem QuA.lt {k : Nat} (h : QuA k) : k < 78 := by rcases h with rfl | rfl | rfl <;> decide
def GaA (k : Nat) : Prop := k = 19 ∨ k = 40 ∨ k = 61
theorem GaA_19 : GaA 19 := Or.inl rfl
theorem GaA_40 : GaA 40 := Or.inr (Or.inl rfl)
theorem GaA_61 : GaA 61 := Or.inr (Or.inr (rfl))
theorem GaA.lt {k : Nat} (h : GaA k) : k < 78 := by rcases h with rfl | rfl | rfl <;> decide
def ReA (k : Nat) : Prop := k = 20 ∨ k = 41 ∨ k = 62
theorem ReA_20 : ReA 20 := Or.inl rfl
theorem ReA_41 : ReA 41 := Or.inr (Or.inl rfl)
theorem ReA_62 : ReA 62 := Or.inr (Or.inr (rfl))
theorem ReA.lt {k : Nat} (h : ReA k) : k < 78 := by rcases h with rfl | rfl | rfl <;> decide
def LoA (k : Nat) : Prop := k = 22 ∨ k = 43 ∨ k = 64
theorem LoA_22 : LoA 22 := Or.inl rfl
theorem LoA_43 : LoA 43 := Or.inr (Or.inl rfl)
theorem LoA_64 : LoA 64 := Or.inr (Or.inr (rfl))
theorem LoA.lt {k : Nat} (h : LoA k) : k < 78 := by rcases h with rfl | rfl | rfl <;> decide
theorem StA.RoA {k : Nat} (h : StA k) : RoA (k + 1) := by
  rcases h with rfl | rfl | rfl
  · exact RoA_4
  · exact RoA_25
  · exact RoA_46
theorem StA.QuA {k : Nat} (h : StA k) : QuA (k + 13) := by
  rcases h with rfl | rfl | rfl
  · exact QuA_16
  · exact QuA_37
  · exact QuA_58
theorem StA.GaA {k : Nat} (h : StA k) : GaA (k + 16) := by
  rcases h with rfl | rfl | rfl
  · exact GaA_19
  · exact GaA_40
  · exact GaA_61
theorem StA.ReA {k : Nat} (h : StA k) : ReA (k + 17) := by
  rcases h with rfl | rfl | rfl
  · exact ReA_20
  · exact ReA_41
  · exact ReA_62
theorem StA.LoA {k : Nat} (h : StA k) : LoA (k + 19) := by
  rcases h with rfl | rfl | rfl
  · exact LoA_22
  · exact LoA_43
  · exact LoA_64
section SH
variable {cA cZ cC : ClassId} {ad : Nat → Nat}
theorem sh7 : ∀ row, shX cA ad 0 row = .inr (7, [.ref (ad 1), .ref (ad 3), .ref (ad 24), .ref (ad 45), .ref (ad 66), .int (row 5)]) := fun _ => rfl
theorem sh0 : ∀ row, shX cA ad 1 row = .inr (0, [.ref (ad 2), .int (row 1), .int (row 2), .int (row 3), .int (row 4), .int (row 5), .int (row 6)]) := fun _ => rfl
theorem sh0a1 : ∀ row, shX cA ad 2 row = .inl (cA, 20, .inl row) := fun _ => rfl
theorem sh6 {k : Nat} (h : StA k) : ∀ row, shX cA ad k row = .inr (6, [.ref (ad (k + 1)), .ref (ad (k + 13)), .ref (ad (k + 16)), .ref (ad (k + 17)), .ref (ad (k + 19)), .int (row 5), .int (row 6), .int (row 7), .int (row 8)]) := by rcases h with rfl | rfl | rfl <;> exact fun _ => rfl
theorem sh5 {k : Nat} (h : RoA k) : ∀ row, shX cA ad k row = .inr (5, [.int (row 0), .ref (ad (k + 1)), .ref (ad (k + 2)), .ref (ad (k + 3)), .ref (ad (k + 4)), .ref (ad (k + 5)), .int (row 6), .ref (ad (k + 6)), .ref (ad (k + 7)), .int (row 9), .ref (ad (k + 8)), .ref (ad (k + 9)), .ref (ad (k + 10)), .ref (ad (k + 11)), .int (row 14), .int (row 15)]) := by rcases h with rfl | rfl | rfl | rfl <;> exact fun _ => rfl
theorem sh5a1 {k : Nat} (h : RoA k) : ∀ row, shX cA ad (k + 1) row = .inl (cA, 12, .inl row) := by rcases h with rfl | rfl | rfl | rfl <;> exact fun _ => rfl
theorem lt5a1 {k : Nat} (h : RoA k) : k + 1 < 78 := by rcases h with rfl | rfl | rfl | rfl <;> decide
theorem sh5a2 {k : Nat} (h : RoA k) : ∀ row, shX cA ad (k + 2) row = .inl (cA, 12, .inl row) := by rcases h with rfl | rfl | rfl | rfl <;> exact fun _ => rfl
theorem lt5a2 {k : Nat} (h : RoA k) : k + 2 < 78 := by rcases h with rfl | rfl | rfl | rfl <;> decide
theorem sh5a3 {k : Nat} (h : RoA k) : ∀ row, shX cA ad (k + 3) row = .inl (cA, 12, .inl row) := by rcases h with rfl | rfl | rfl | rfl <;> exact fun _ => rfl
theorem lt5a3 {k : Nat} (h : RoA k) : k + 3 < 78 := by rcases h with rfl | rfl | rfl | rfl <;> decide
theorem sh5a4 {k : Nat} (h : RoA k) : ∀ row, shX cA ad (k + 4) row = .inl (cA, 12, .inl row) := by rcases h with rfl | rfl | rfl | rfl <;> exact fun _ => rfl
theorem lt5a4 {k : Nat} (h : RoA k) : k + 4 < 78 := by rcases h with rfl | rfl | rfl | rfl <;> decide
theorem sh5a5 {k : Nat} (h : RoA k) : ∀ row, shX cA ad (k + 5) row = .inl (cA, 12, .inl row) := by rcases h with rfl | rfl | rfl | rfl <;> exact fun _ => rfl
theorem lt5a5 {k : Nat} (h : RoA k) : k + 5 < 78 := by rcases h with rfl | rfl | rfl | rfl <;> decide
theorem sh5a6 {k : Nat} (h : RoA k) : ∀ row, shX cA ad (k + 6) row = .inl (cA, 24, .inl row) := by rcases h with rfl | rfl | rfl | rfl <;> exact fun _ => rfl
theorem lt5a6 {k : Nat} (h : RoA k) : k + 6 < 78 := by rcases h with rfl | rfl | rfl | rfl <;> decide
theorem sh5a7 {k : Nat} (h : RoA k) : ∀ row, shX cA ad (k + 7) row = .inl (cA, 24, .inl row) := by rcases h with rfl | rfl | rfl | rfl <;> exact fun _ => rfl
theorem lt5a7 {k : Nat} (h : RoA k) : k + 7 < 78 := by rcases h with rfl | rfl | rfl | rfl <;> decide
theorem sh5a8 {k : Nat} (h : RoA k) : ∀ row, shX cA ad (k + 8) row = .inl (cA, 12, .inl row) := by rcases h with rfl | rfl | rfl | rfl <;> exact fun _ => rfl
theorem lt5a8 {k : Nat} (h : RoA k) : k + 8 < 78 := by rcases h with rfl | rfl | rfl | rfl <;> decide
theorem sh5a9 {k : Nat} (h : RoA k) : ∀ row, shX cA ad (k + 9) row = .inl (cA, 12, .inl row) := by rcases h with rfl | rfl | rfl | rfl <;> exact fun _ => rfl
theorem lt5a9 {k : Nat} (h : RoA k) : k + 9 < 78 := by rcases h with rfl | rfl | rfl | rfl <;> decide
theorem sh5a10 {k : Nat} (h : RoA k) : ∀ row, shX cA ad (k + 10) row = .inl (cA, 12, .inl row) := by rcases h with rfl | rfl | rfl | rfl <;> exact fun _ => rfl
theorem lt5a10 {k : Nat} (h : RoA k) : k + 10 < 78 := by rcases h with rfl | rfl | rfl | rfl <;> decide
theorem sh5a11 {k : Nat} (h : RoA k) : ∀ row, shX cA ad (k + 11) row = .inl (cA, 12, .inl row) := by rcases h with rfl | rfl | rfl | rfl <;> exact fun _ => rfl
theorem lt5a11 {k : Nat} (h : RoA k) : k + 11 < 78 := by rcases h with rfl | rfl | rfl | rfl <;> decide
theorem sh3 {k : Nat} (h : QuA k) : ∀ row, shX cA ad k row = .inr (3, [.int (row 0), .ref (ad (k + 1)), .ref (ad (k + 2))]) := by rcases h with rfl | rfl | rfl <;> exact fun _ => rfl
theorem sh3a1 {k : Nat} (h : QuA k) : ∀ row, shX cA ad (k + 1) row = .inl (cA, 8, .inl row) := by rcases h with rfl | rfl | rfl <;> exact fun _ => rfl
theorem lt3a1 {k : Nat} (h : QuA k) : k + 1 < 78 := by rcases h with rfl | rfl | rfl <;> decide
theorem sh3a2 {k : Nat} (h : QuA k) : ∀ row, shX cA ad (k + 2) row = .inl (cA, 8, .inl row) := by rcases h with rfl | rfl | rfl <;> exact fun _ => rfl
theorem lt3a2 {k : Nat} (h : QuA k) : k + 2 < 78 := by rcases h with rfl | rfl | rfl <;> decide
theorem sh1 {k : Nat} (h : GaA k) : ∀ row, shX cA ad k row = .inr (1, [.int (bz (row 0)), .int (row 1), .int (row 2), .int (row 3), .int (row 4), .int (row 5), .int (row 6)]) := by rcases h with rfl | rfl | rfl <;> exact fun _ => rfl
theorem sh4 {k : Nat} (h : ReA k) : ∀ row, shX cA ad k row = .inr (4, [.int (row 0), .ref (ad (k + 1))]) := by rcases h with rfl | rfl | rfl <;> exact fun _ => rfl
theorem sh4a1 {k : Nat} (h : ReA k) : ∀ row, shX cA ad (k + 1) row = .inl (cA, 210, .inl row) := by rcases h with rfl | rfl | rfl <;> exact fun _ => rfl
theorem lt4a1 {k : Nat} (h : ReA k) : k + 1 < 78 := by rcases h with rfl | rfl | rfl <;> decide
theorem sh2 {k : Nat} (h : LoA k) : ∀ row, shX cA ad k row = .inr (2, [.int (row 0), .ref (ad (k + 1))]) := by rcases h with rfl | rfl | rfl <;> exact fun _ => rfl
theorem sh2a1 {k : Nat} (h : LoA k) : ∀ row, shX cA ad (k + 1) row = .inl (cA, 2048, .inl row) := by rcases h with rfl | rfl | rfl <;> exact fun _ => rfl
theorem lt2a1 {k : Nat} (h : LoA k) : k + 1 < 78 := by rcases h with rfl | rfl | rfl <;> decide
theorem sh8 : ∀ row, shR cA cZ cC ad 0 row = .inr (8, [.ref (ad 1), .ref (ad 2), .ref (ad 3), .ref (ad 4), .int (row 4), .ref (ad 5), .int (row 6), .int (bz (row 7)), .int (row 8), .int (row 9), .int (row 10), .int (row 11), .ref (ad 6), .int (row 13)]) := fun _ => rfl
theorem sh8a1 : ∀ row, shR cA cZ cC ad 1 row = .inl (cA, 902, .inl row) := fun _ => rfl
theorem sh8a2 : ∀ row, shR cA cZ cC ad 2 row = .inl (cA, 902, .inl row) := fun _ => rfl
theorem sh8a3 : ∀ row, shR cA cZ cC ad 3 row = .inl (cA, 1804, .inl row) := fun _ => rfl
theorem sh8a4 : ∀ row, shR cA cZ cC ad 4 row = .inl (cZ, 2, .inl row) := fun _ => rfl
theorem sh8a5 : ∀ row, shR cA cZ cC ad 5 row = .inl (cC, 20, .inl row) := fun _ => rfl
theorem sh8a6 : ∀ row, shR cA cZ cC ad 6 row = .inl (cA, 24, .inl row) := fun _ => rfl
end SH
theorem inX0 : ∀ w ∈ u_ws RX0 TX0 7, w ∈ TB := by
  intro w hw
  obtain ⟨k, hk, rfl⟩ := List.mem_map.mp hw
  rw [List.mem_range] at hk
  match k, hk with
  | 0, _ => exact TBm 112 (by decide +kernel) rfl
  | 1, _ => exact TBm 114 (by decide +kernel) rfl
  | 2, _ => exact TBm 116 (by decide +kernel) rfl
  | 3, _ => exact TBm 118 (by decide +kernel) rfl
  | 4, _ => exact TBm 120 (by decide +kernel) rfl
  | 5, _ => exact TBm 122 (by decide +kernel) rfl
  | 6, _ => exact TBm 124 (by decide +kernel) rfl
  | k + 7, h => exact absurd h (by omega)
theorem inX1 : ∀ w ∈ u_ws RX1 TX1 7, w ∈ TB := by
  intro w hw
  obtain ⟨k, hk, rfl⟩ := List.mem_map.mp hw
  rw [List.mem_range] at hk
  match k, hk with
  | 0, _ => exact TBm 262 (by decide +kernel) rfl
  | 1, _ => exact TBm 264 (by decide +kernel) rfl
  | 2, _ => exact TBm 266 (by decide +kernel) rfl
  | 3, _ => exact TBm 268 (by decide +kernel) rfl
  | 4, _ => exact TBm 270 (by decide +kernel) rfl
  | 5, _ => exact TBm 272 (by decide +kernel) rfl
  | 6, _ => exact TBm 274 (by decide +kernel) rfl
  | k + 7, h => exact absurd h (by omega)
theorem inX2 : ∀ w ∈ u_ws RX2 TX2 2, w ∈ TB := by
  intro w hw
  obtain ⟨k, hk, rfl⟩ := List.mem_map.mp hw
  rw [List.mem_range] at hk
  match k, hk with
  | 0, _ => exact TBm 303 (by decide +kernel) rfl
  | 1, _ => exact TBm 305 (by decide +kernel) rfl
  | k + 2, h => exact absurd h (by omega)
theorem inX3 : ∀ w ∈ u_ws RX3 TX3 3, w ∈ TB := by
  intro w hw
  obtain ⟨k, hk, rfl⟩ := List.mem_map.mp hw
  rw [List.mem_range] at hk
  match k, hk with
  | 0, _ => exact TBm 225 (by decide +kernel) rfl
  | 1, _ => exact TBm 227 (by decide +kernel) rfl
  | 2, _ => exact TBm 229 (by decide +kernel) rfl
  | k + 3, h => exact absurd h (by omega)
theorem inX4 : ∀ w ∈ u_ws RX4 TX4 2, w ∈ TB := by
  intro w hw
  obtain ⟨k, hk, rfl⟩ := List.mem_map.mp hw
  rw [List.mem_range] at hk
  match k, hk with
  | 0, _ => exact TBm 287 (by decide +kernel) rfl
  | 1, _ => exact TBm 289 (by decide +kernel) rfl
  | k + 2, h => exact absurd h (by omega)
theorem inX5 : ∀ w ∈ u_ws RX5 TX5 16, w ∈ TB := by
  intro w hw
  obtain ⟨k, hk, rfl⟩ := List.mem_map.mp hw
  rw [List.mem_range] at hk
  match k, hk with
  | 0, _ => exact TBm 178 (by decide +kernel) rfl
  | 1, _ => exact TBm 180 (by decide +kernel) rfl
  | 2, _ => exact TBm 182 (by decide +kernel) rfl
  | 3, _ => exact TBm 184 (by decide +kernel) rfl
  | 4, _ => exact TBm 186 (by decide +kernel) rfl
  | 5, _ => exact TBm 188 (by decide +kernel) rfl
  | 6, _ => exact TBm 190 (by decide +kernel) rfl
  | 7, _ => exact TBm 192 (by decide +kernel) rfl
  | 8, _ => exact TBm 194 (by decide +kernel) rfl
  | 9, _ => exact TBm 196 (by decide +kernel) rfl
  | 10, _ => exact TBm 198 (by decide +kernel) rfl
  | 11, _ => exact TBm 200 (by decide +kernel) rfl
  | 12, _ => exact TBm 202 (by decide +kernel) rfl
  | 13, _ => exact TBm 204 (by decide +kernel) rfl
  | 14, _ => exact TBm 206 (by decide +kernel) rfl
  | 15, _ => exact TBm 208 (by decide +kernel) rfl
  | k + 16, h => exact absurd h (by omega)
theorem inX6 : ∀ w ∈ u_ws RX6 TX6 9, w ∈ TB := by
  intro w hw
  obtain ⟨k, hk, rfl⟩ := List.mem_map.mp hw
  rw [List.mem_range] at hk
  match k, hk with
  | 0, _ => exact TBm 326 (by decide +kernel) rfl
  | 1, _ => exact TBm 328 (by decide +kernel) rfl
  | 2, _ => exact TBm 330 (by decide +kernel) rfl
  | 3, _ => exact TBm 332 (by decide +kernel) rfl
  | 4, _ => exact TBm 334 (by decide +kernel) rfl
  | 5, _ => exact TBm 336 (by decide +kernel) rfl
  | 6, _ => exact TBm 338 (by decide +kernel) rfl
  | 7, _ => exact TBm 340 (by decide +kernel) rfl
  | 8, _ => exact TBm 342 (by decide +kernel) rfl
  | k + 9, h => exact absurd h (by omega)
theorem inX7 : ∀ w ∈ u_ws RX7 TX7 6, w ∈ TB := by
  intro w hw
  obtain ⟨k, hk, rfl⟩ := List.mem_map.mp hw
  rw [List.mem_range] at hk
  match k, hk with
  | 0, _ => exact TBm 353 (by decide +kernel) rfl
  | 1, _ => exact TBm 355 (by decide +kernel) rfl
  | 2, _ => exact TBm 357 (by decide +kernel) rfl
  | 3, _ => exact TBm 359 (by decide +kernel) rfl
  | 4, _ => exact TBm 361 (by decide +kernel) rfl
  | 5, _ => exact TBm 363 (by decide +kernel) rfl
  | k + 6, h => exact absurd h (by omega)
theorem inX8 : ∀ w ∈ u_ws RX8 TX8 14, w ∈ TB := by
  intro w hw
  obtain ⟨k, hk, rfl⟩ := List.mem_map.mp hw
  rw [List.mem_range] at hk
  match k, hk with
  | 0, _ => exact TBm 986 (by decide +kernel) rfl
  | 1, _ => exact TBm 988 (by decide +kernel) rfl
  | 2, _ => exact TBm 990 (by decide +kernel) rfl
  | 3, _ => exact TBm 992 (by decide +kernel) rfl
  | 4, _ => exact TBm 994 (by decide +kernel) rfl
  | 5, _ => exact TBm 996 (by decide +kernel) rfl
  | 6, _ => exact TBm 998 (by decide +kernel) rfl
  | 7, _ => exact TBm 1000 (by decide +kernel) rfl
  | 8, _ => exact TBm 1002 (by decide +kernel) rfl
  | 9, _ => exact TBm 1004 (by decide +kernel) rfl
  | 10, _ => exact TBm 1006 (by decide +kernel) rfl
  | 11, _ => exact TBm 1008 (by decide +kernel) rfl
  | 12, _ => exact TBm 1010 (by decide +kernel) rfl
  | 13, _ => exact TBm 1012 (by decide +kernel) rfl
  | k + 14, h => exact absurd h (by omega)
def nestW : List Cond := [.methodLinkNest RX7 (9) yX0_init RX7, .methodLinkNest RX7 (18) yX6_init RX7, .methodLinkNest RX5 (49) yX7_put RX7, .methodLinkNest RX6 (20) yX3_init RX7, .methodLinkNest RX6 (27) yX1_init RX7, .methodLinkNest RX6 (34) yX4_init RX7, .methodLinkNest RX6 (41) yX2_init RX7, .methodLinkNest RX0 (71) yX7_at RX7, .methodLinkNest RX5 (69) yX7_at RX7, .methodLinkNest RX3 (26) yX7_put RX7, .methodLinkNest RX3 (30) yX7_at RX7, .methodLinkNest RX6 (97) yX7_at RX7, .methodLinkNest RX2 (23) yX7_put RX7, .methodLinkNest RX6 (146) yX7_asNumber RX7, .methodLinkNest RX4 (28) yX7_put RX7, .methodLinkNest RX5 (106) yX7_actMinutes RX7, .methodLinkNest RX6 (172) yX7_put RX7, .methodLinkNest RX5 (53) yX7_copyRow RX7, .methodLinkNest RX3 (22) yX7_copyRow RX7, .methodLinkNest RX4 (19) yX7_copyRow RX7, .methodLinkNest RX2 (19) yX7_at RX7, .methodLinkNest RX5 (135) yX7_stepKind RX7, .methodLinkNest RX4 (44) yX7_at RX7]
theorem nestM_ok : ∀ w ∈ nestW, ∃ a i x h, w = .methodLinkNest a i x h := by
  intro w hw
  simp only [nestW, List.mem_cons, List.not_mem_nil, or_false] at hw
  rcases hw with rfl | rfl | rfl | rfl | rfl | rfl | rfl | rfl | rfl | rfl | rfl | rfl | rfl | rfl | rfl | rfl | rfl | rfl | rfl | rfl | rfl | rfl | rfl <;> exact ⟨_, _, _, _, rfl⟩
def lenS : List Nat := [1, 5, 4, 5, 6, 4, 4, 3, 4, 4, 4, 5, 2]
def bytS : List (List Int32) := [[32], [108, 97, 116, 99, 104], [107, 101, 121, 32], [99, 111, 100, 101, 32], [112, 108, 97, 116, 101, 32], [111, 118, 101, 114], [116, 97, 107, 101], [108, 97, 121], [111, 112, 101, 110], [114, 101, 97, 100], [114, 101, 115, 116], [110, 117, 100, 103, 101], [117, 112]]
def ownS : List String := ["ResetRooms$BoxText", "ResetRooms$BoxText", "ResetRooms$BoxText", "ResetRooms$BoxText", "ResetRooms$BoxText", "ResetRooms$State", "ResetRooms", "ResetRooms", "ResetRooms", "ResetRooms", "ResetRooms", "ResetRooms", "ResetRooms"]
def idxS : List Nat := [29, 52, 54, 56, 58, 159, 188, 203, 210, 234, 242, 253, 267]
def txtS : List String := [" ", "latch", "key ", "code ", "plate ", "over", "take", "lay", "open", "read", "rest", "nudge", "up"]
/-- beside the world of the class: the links of nest mates, the texts of the words, two statics -/
def ExX (ad sK sV : Nat → Nat) (U : State) : Prop := (∀ w ∈ nestW, va_Nw w U) ∧ (∀ j, j < 13 → vk_R (ownS.getD j "") (idxS.getD j 0) (txtS.getD j "") (sK j) U) ∧ vk_S 13 lenS bytS sK sV (AW 78 ad) U U.heap ∧ va_Z "java/lang/String" "COMPACT_STRINGS" "Z" (.int 1) (AW 78 ad) U U.heap
theorem ExX.ok (ad sK sV : Nat → Nat) : ExOK (ExX ad sK sV) 78 ad := by
  refine ⟨fun U g mk a h => ?_, fun s U H locs h hS hU hW => ?_⟩
  · refine ⟨fun w hw => ?_, fun j hj => vk_R.same rfl (h.2.1 j hj), vk_S.moved (Vm.Alike.refl U.vm) h.2.2.1, va_Z.moved (Vm.Alike.refl U.vm) h.2.2.2⟩
    obtain ⟨a, i, x, hh, rfl⟩ := nestM_ok w hw
    exact va_Nw.same rfl rfl (h.1 _ hw)
  · subst hU
    refine ⟨fun w hw => ?_, fun j hj => vk_R.warm hW (h.2.1 j hj), vk_S.moved hW.alike (vk_S.kept h.2.2.1 hS.2.1), va_Z.moved hW.alike (va_Z.kept h.2.2.2 hS.2.1)⟩
    obtain ⟨a, i, x, hh, rfl⟩ := nestM_ok w hw
    exact va_Nw.warmM hW (h.1 _ hw)
def ExR (_ : State) : Prop := True
theorem ExR.ok (N : Nat) (ad : Nat → Nat) : ExOK ExR N ad := ⟨fun _ _ _ _ _ => trivial, fun _ _ _ _ _ _ _ _ => trivial⟩
abbrev XI (G : va_G) (ad sK sV : Nat → Nat) (cA cZ cC : ClassId) (y : MethodName) (b : ByteArray) (n : Nat) (ty : FieldType) (rm : Room) (av : List Value) (M : Mem) (v : Int32) (M' : Mem) : Prop := CI G (TY cA cZ cC) (ExX ad sK sV) 78 (shX cA ad) ad y b n ty rm av M v M'
abbrev XV (G : va_G) (ad sK sV : Nat → Nat) (cA cZ cC : ClassId) (y : MethodName) (b : ByteArray) (n : Nat) (rm : Room) (av : List Value) (M : Mem) (M' : Mem) : Prop := CV G (TY cA cZ cC) (ExX ad sK sV) 78 (shX cA ad) ad y b n rm av M M'
abbrev RI (G : va_G) (ad : Nat → Nat) (cA cZ cC : ClassId) (y : MethodName) (b : ByteArray) (n : Nat) (ty : FieldType) (rm : Room) (av : List Value) (M : Mem) (v : Int32) (M' : Mem) : Prop := CI G (TY cA cZ cC) ExR 7 (shR cA cZ cC ad) ad y b n ty rm av M v M'
abbrev RV (G : va_G) (ad : Nat → Nat) (cA cZ cC : ClassId) (y : MethodName) (b : ByteArray) (n : Nat) (rm : Room) (av : List Value) (M : Mem) (M' : Mem) : Prop := CV G (TY cA cZ cC) ExR 7 (shR cA cZ cC ad) ad y b n rm av M M'
def thn {α β : Type} (x : α) (f : α → β) : β := f x
theorem thn_ex {α β : Type} {x : α} {f : α → β} {r : β} (h : thn x f = r) : ∃ y, x = y ∧ f y = r := ⟨x, rfl, h⟩
def bnd {α β : Type} (x : Option α) (f : α → Option β) : Option β := match x with
  | none => none
  | some y => f y
theorem bnd_ex {α β : Type} {x : Option α} {f : α → Option β} {r : β} (h : bnd x f = some r) : ∃ y, x = some y ∧ f y = some r := by
  cases x with
  | none => cases h
  | some y => exact ⟨y, rfl, h⟩
theorem ite_some {α : Type} {c : Prop} [Decidable c] {A : Option α} {r : α} (h : (if c then A else none) = some r) : c ∧ A = some r := by
  by_cases hc : c
  · rw [if_pos hc] at h; exact ⟨hc, h⟩
  · rw [if_neg hc] at h; cases h
def inb (i : Int32) (n : Nat) : Bool := !decide (i < 0) && decide (i.toNatClampNeg < n)
theorem inb_in {i : Int32} {n : Nat} (h : inb i n = true) : vp_in i n := by
  simp only [inb, Bool.and_eq_true, Bool.not_eq_true', decide_eq_false_iff_not, decide_eq_true_eq] at h
  intro q
  rcases q with q | q
  · exact h.1 q
  · omega
end
