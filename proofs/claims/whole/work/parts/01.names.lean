-- ===== PART A: goes FIRST, ahead of the names: the tables' words, and 'selects' of the private methods out of them =====
/-- a private method of a class that the tables say can be made, by its rows of tables_1 -/
def lw_okq (q : MethodName × Nat) : Prop := (q.1.cls ≠ "java/lang/invoke/MethodHandle" ∧ q.1.cls ≠ "java/lang/invoke/VarHandle") ∧ Cond.instantiable q.1.cls q.2 ∈ tables_1 ∧ Cond.privateMethod q.1 ∈ tables_1 ∧ Cond.instanceMethod q.1 ∈ tables_1
theorem lw_p0 : lw_okq (⟨"ResetRooms$BoxText", "matchesDigits", "(II)Z"⟩, 7) := ⟨⟨by decide +kernel, by decide +kernel⟩, List.mem_of_getElem? (i := 25) (by decide +kernel), List.mem_of_getElem? (i := 314) (by decide +kernel), List.mem_of_getElem? (i := 315) (by decide +kernel)⟩
theorem lw_p1 : lw_okq (⟨"ResetRooms$BoxText", "digitHere", "()Z"⟩, 7) := ⟨⟨by decide +kernel, by decide +kernel⟩, List.mem_of_getElem? (i := 25) (by decide +kernel), List.mem_of_getElem? (i := 318) (by decide +kernel), List.mem_of_getElem? (i := 319) (by decide +kernel)⟩
theorem lw_p2 : lw_okq (⟨"ResetRooms$BoxText", "signHere", "()I"⟩, 7) := ⟨⟨by decide +kernel, by decide +kernel⟩, List.mem_of_getElem? (i := 25) (by decide +kernel), List.mem_of_getElem? (i := 322) (by decide +kernel), List.mem_of_getElem? (i := 323) (by decide +kernel)⟩
theorem lw_p3 : lw_okq (⟨"ResetRooms$BoxText", "matchesWord", "(Ljava/lang/String;)Z"⟩, 7) := ⟨⟨by decide +kernel, by decide +kernel⟩, List.mem_of_getElem? (i := 25) (by decide +kernel), List.mem_of_getElem? (i := 330) (by decide +kernel), List.mem_of_getElem? (i := 331) (by decide +kernel)⟩
theorem lw_p4 : lw_okq (⟨"ResetRooms$BoxText", "matchesLock", "()Z"⟩, 7) := ⟨⟨by decide +kernel, by decide +kernel⟩, List.mem_of_getElem? (i := 25) (by decide +kernel), List.mem_of_getElem? (i := 382) (by decide +kernel), List.mem_of_getElem? (i := 383) (by decide +kernel)⟩
theorem lw_p5 : lw_okq (⟨"ResetRooms$Log", "appendNumber", "(I)V"⟩, 2) := ⟨⟨by decide +kernel, by decide +kernel⟩, List.mem_of_getElem? (i := 223) (by decide +kernel), List.mem_of_getElem? (i := 551) (by decide +kernel), List.mem_of_getElem? (i := 552) (by decide +kernel)⟩
theorem lw_p6 : lw_okq (⟨"ResetRooms$Log", "appendSign", "(I)V"⟩, 2) := ⟨⟨by decide +kernel, by decide +kernel⟩, List.mem_of_getElem? (i := 223) (by decide +kernel), List.mem_of_getElem? (i := 556) (by decide +kernel), List.mem_of_getElem? (i := 557) (by decide +kernel)⟩
theorem lw_p7 : lw_okq (⟨"ResetRooms$Log", "appendArgument", "(I)V"⟩, 2) := ⟨⟨by decide +kernel, by decide +kernel⟩, List.mem_of_getElem? (i := 223) (by decide +kernel), List.mem_of_getElem? (i := 563) (by decide +kernel), List.mem_of_getElem? (i := 564) (by decide +kernel)⟩
theorem lw_p8 : lw_okq (⟨"ResetRooms$Room", "stepForCode", "(I)I"⟩, 16) := ⟨⟨by decide +kernel, by decide +kernel⟩, List.mem_of_getElem? (i := 65) (by decide +kernel), List.mem_of_getElem? (i := 660) (by decide +kernel), List.mem_of_getElem? (i := 661) (by decide +kernel)⟩
theorem lw_p9 : lw_okq (⟨"ResetRooms$Room", "lowestUnknownPlace", "(I)I"⟩, 16) := ⟨⟨by decide +kernel, by decide +kernel⟩, List.mem_of_getElem? (i := 65) (by decide +kernel), List.mem_of_getElem? (i := 664) (by decide +kernel), List.mem_of_getElem? (i := 665) (by decide +kernel)⟩
theorem lw_p10 : lw_okq (⟨"ResetRooms$Room", "stepForThing", "(I)I"⟩, 16) := ⟨⟨by decide +kernel, by decide +kernel⟩, List.mem_of_getElem? (i := 65) (by decide +kernel), List.mem_of_getElem? (i := 668) (by decide +kernel), List.mem_of_getElem? (i := 669) (by decide +kernel)⟩
theorem lw_p11 : lw_okq (⟨"ResetRooms$Room", "stepToHold", "(I)I"⟩, 16) := ⟨⟨by decide +kernel, by decide +kernel⟩, List.mem_of_getElem? (i := 65) (by decide +kernel), List.mem_of_getElem? (i := 672) (by decide +kernel), List.mem_of_getElem? (i := 673) (by decide +kernel)⟩
theorem lw_p12 : lw_okq (⟨"ResetRooms$Room", "lowestHeld", "()I"⟩, 16) := ⟨⟨by decide +kernel, by decide +kernel⟩, List.mem_of_getElem? (i := 65) (by decide +kernel), List.mem_of_getElem? (i := 677) (by decide +kernel), List.mem_of_getElem? (i := 678) (by decide +kernel)⟩
theorem lw_p13 : lw_okq (⟨"ResetRooms$State", "cluesOfReset", "()I"⟩, 9) := ⟨⟨by decide +kernel, by decide +kernel⟩, List.mem_of_getElem? (i := 59) (by decide +kernel), List.mem_of_getElem? (i := 730) (by decide +kernel), List.mem_of_getElem? (i := 731) (by decide +kernel)⟩
theorem lw_p14 : lw_okq (⟨"ResetRooms", "slotState", "(I)LResetRooms$State;"⟩, 6) := ⟨⟨by decide +kernel, by decide +kernel⟩, List.mem_of_getElem? (i := 17) (by decide +kernel), List.mem_of_getElem? (i := 761) (by decide +kernel), List.mem_of_getElem? (i := 762) (by decide +kernel)⟩
theorem lw_p15 : lw_okq (⟨"ResetRooms$Room", "follow", "(III)I"⟩, 16) := ⟨⟨by decide +kernel, by decide +kernel⟩, List.mem_of_getElem? (i := 65) (by decide +kernel), List.mem_of_getElem? (i := 861) (by decide +kernel), List.mem_of_getElem? (i := 862) (by decide +kernel)⟩
def lw_privs_1 : List (MethodName × Nat) := [(⟨"ResetRooms$BoxText", "matchesDigits", "(II)Z"⟩, 7), (⟨"ResetRooms$BoxText", "digitHere", "()Z"⟩, 7), (⟨"ResetRooms$BoxText", "signHere", "()I"⟩, 7), (⟨"ResetRooms$BoxText", "matchesWord", "(Ljava/lang/String;)Z"⟩, 7), (⟨"ResetRooms$BoxText", "matchesLock", "()Z"⟩, 7), (⟨"ResetRooms$Log", "appendNumber", "(I)V"⟩, 2), (⟨"ResetRooms$Log", "appendSign", "(I)V"⟩, 2), (⟨"ResetRooms$Log", "appendArgument", "(I)V"⟩, 2), (⟨"ResetRooms$Room", "stepForCode", "(I)I"⟩, 16), (⟨"ResetRooms$Room", "lowestUnknownPlace", "(I)I"⟩, 16), (⟨"ResetRooms$Room", "stepForThing", "(I)I"⟩, 16), (⟨"ResetRooms$Room", "stepToHold", "(I)I"⟩, 16), (⟨"ResetRooms$Room", "lowestHeld", "()I"⟩, 16), (⟨"ResetRooms$State", "cluesOfReset", "()I"⟩, 9), (⟨"ResetRooms", "slotState", "(I)LResetRooms$State;"⟩, 6), (⟨"ResetRooms$Room", "follow", "(III)I"⟩, 16)]
theorem lw_r1 : ∀ q ∈ lw_privs_1, lw_okq q := List.forall_mem_cons.mpr ⟨lw_p0, List.forall_mem_cons.mpr ⟨lw_p1, List.forall_mem_cons.mpr ⟨lw_p2, List.forall_mem_cons.mpr ⟨lw_p3, List.forall_mem_cons.mpr ⟨lw_p4, List.forall_mem_cons.mpr ⟨lw_p5, List.forall_mem_cons.mpr ⟨lw_p6, List.forall_mem_cons.mpr ⟨lw_p7, List.forall_mem_cons.mpr ⟨lw_p8, List.forall_mem_cons.mpr ⟨lw_p9, List.forall_mem_cons.mpr ⟨lw_p10, List.forall_mem_cons.mpr ⟨lw_p11, List.forall_mem_cons.mpr ⟨lw_p12, List.forall_mem_cons.mpr ⟨lw_p13, List.forall_mem_cons.mpr ⟨lw_p14, List.forall_mem_cons.mpr ⟨lw_p15, fun _ h => absurd h List.not_mem_nil⟩⟩⟩⟩⟩⟩⟩⟩⟩⟩⟩⟩⟩⟩⟩⟩
theorem lw_p16 : lw_okq (⟨"ResetRoomsModel", "faultOfText", "()I"⟩, 14) := ⟨⟨by decide +kernel, by decide +kernel⟩, List.mem_of_getElem? (i := 897) (by decide +kernel), List.mem_of_getElem? (i := 971) (by decide +kernel), List.mem_of_getElem? (i := 972) (by decide +kernel)⟩
theorem lw_p17 : lw_okq (⟨"ResetRoomsModel", "number", "(II)I"⟩, 14) := ⟨⟨by decide +kernel, by decide +kernel⟩, List.mem_of_getElem? (i := 897) (by decide +kernel), List.mem_of_getElem? (i := 975) (by decide +kernel), List.mem_of_getElem? (i := 976) (by decide +kernel)⟩
theorem lw_p18 : lw_okq (⟨"ResetRoomsModel", "seesDigit", "()Z"⟩, 14) := ⟨⟨by decide +kernel, by decide +kernel⟩, List.mem_of_getElem? (i := 897) (by decide +kernel), List.mem_of_getElem? (i := 979) (by decide +kernel), List.mem_of_getElem? (i := 980) (by decide +kernel)⟩
theorem lw_p19 : lw_okq (⟨"ResetRoomsModel", "sees", "()I"⟩, 14) := ⟨⟨by decide +kernel, by decide +kernel⟩, List.mem_of_getElem? (i := 897) (by decide +kernel), List.mem_of_getElem? (i := 983) (by decide +kernel), List.mem_of_getElem? (i := 984) (by decide +kernel)⟩
theorem lw_p20 : lw_okq (⟨"ResetRoomsModel", "takes", "(I)V"⟩, 14) := ⟨⟨by decide +kernel, by decide +kernel⟩, List.mem_of_getElem? (i := 897) (by decide +kernel), List.mem_of_getElem? (i := 987) (by decide +kernel), List.mem_of_getElem? (i := 988) (by decide +kernel)⟩
theorem lw_p21 : lw_okq (⟨"ResetRoomsModel", "readsLock", "()V"⟩, 14) := ⟨⟨by decide +kernel, by decide +kernel⟩, List.mem_of_getElem? (i := 897) (by decide +kernel), List.mem_of_getElem? (i := 991) (by decide +kernel), List.mem_of_getElem? (i := 992) (by decide +kernel)⟩
theorem lw_p22 : lw_okq (⟨"ResetRoomsModel", "noBox", "(I)Z"⟩, 14) := ⟨⟨by decide +kernel, by decide +kernel⟩, List.mem_of_getElem? (i := 897) (by decide +kernel), List.mem_of_getElem? (i := 998) (by decide +kernel), List.mem_of_getElem? (i := 999) (by decide +kernel)⟩
theorem lw_p23 : lw_okq (⟨"ResetRoomsModel", "noProp", "(I)Z"⟩, 14) := ⟨⟨by decide +kernel, by decide +kernel⟩, List.mem_of_getElem? (i := 897) (by decide +kernel), List.mem_of_getElem? (i := 1002) (by decide +kernel), List.mem_of_getElem? (i := 1003) (by decide +kernel)⟩
theorem lw_p24 : lw_okq (⟨"ResetRoomsModel", "plays", "()Z"⟩, 14) := ⟨⟨by decide +kernel, by decide +kernel⟩, List.mem_of_getElem? (i := 897) (by decide +kernel), List.mem_of_getElem? (i := 1006) (by decide +kernel), List.mem_of_getElem? (i := 1007) (by decide +kernel)⟩
theorem lw_p25 : lw_okq (⟨"ResetRoomsModel", "noGroup", "(I)Z"⟩, 14) := ⟨⟨by decide +kernel, by decide +kernel⟩, List.mem_of_getElem? (i := 897) (by decide +kernel), List.mem_of_getElem? (i := 1039) (by decide +kernel), List.mem_of_getElem? (i := 1040) (by decide +kernel)⟩
theorem lw_p26 : lw_okq (⟨"ResetRoomsModel", "removeGroup", "(I)V"⟩, 14) := ⟨⟨by decide +kernel, by decide +kernel⟩, List.mem_of_getElem? (i := 897) (by decide +kernel), List.mem_of_getElem? (i := 1043) (by decide +kernel), List.mem_of_getElem? (i := 1044) (by decide +kernel)⟩
theorem lw_p27 : lw_okq (⟨"ResetRoomsModel", "isOpen", "(I)Z"⟩, 14) := ⟨⟨by decide +kernel, by decide +kernel⟩, List.mem_of_getElem? (i := 897) (by decide +kernel), List.mem_of_getElem? (i := 1051) (by decide +kernel), List.mem_of_getElem? (i := 1052) (by decide +kernel)⟩
theorem lw_p28 : lw_okq (⟨"ResetRoomsModel", "pass", "(I)V"⟩, 14) := ⟨⟨by decide +kernel, by decide +kernel⟩, List.mem_of_getElem? (i := 897) (by decide +kernel), List.mem_of_getElem? (i := 1055) (by decide +kernel), List.mem_of_getElem? (i := 1056) (by decide +kernel)⟩
theorem lw_p29 : lw_okq (⟨"ResetRoomsModel", "clueAtHand", "(I)Z"⟩, 14) := ⟨⟨by decide +kernel, by decide +kernel⟩, List.mem_of_getElem? (i := 897) (by decide +kernel), List.mem_of_getElem? (i := 1059) (by decide +kernel), List.mem_of_getElem? (i := 1060) (by decide +kernel)⟩
theorem lw_p30 : lw_okq (⟨"ResetRoomsModel", "propAtHand", "(I)Z"⟩, 14) := ⟨⟨by decide +kernel, by decide +kernel⟩, List.mem_of_getElem? (i := 897) (by decide +kernel), List.mem_of_getElem? (i := 1063) (by decide +kernel), List.mem_of_getElem? (i := 1064) (by decide +kernel)⟩
theorem lw_p31 : lw_okq (⟨"ResetRoomsModel", "isHeld", "(I)Z"⟩, 14) := ⟨⟨by decide +kernel, by decide +kernel⟩, List.mem_of_getElem? (i := 897) (by decide +kernel), List.mem_of_getElem? (i := 1067) (by decide +kernel), List.mem_of_getElem? (i := 1068) (by decide +kernel)⟩
def lw_privs_2 : List (MethodName × Nat) := [(⟨"ResetRoomsModel", "faultOfText", "()I"⟩, 14), (⟨"ResetRoomsModel", "number", "(II)I"⟩, 14), (⟨"ResetRoomsModel", "seesDigit", "()Z"⟩, 14), (⟨"ResetRoomsModel", "sees", "()I"⟩, 14), (⟨"ResetRoomsModel", "takes", "(I)V"⟩, 14), (⟨"ResetRoomsModel", "readsLock", "()V"⟩, 14), (⟨"ResetRoomsModel", "noBox", "(I)Z"⟩, 14), (⟨"ResetRoomsModel", "noProp", "(I)Z"⟩, 14), (⟨"ResetRoomsModel", "plays", "()Z"⟩, 14), (⟨"ResetRoomsModel", "noGroup", "(I)Z"⟩, 14), (⟨"ResetRoomsModel", "removeGroup", "(I)V"⟩, 14), (⟨"ResetRoomsModel", "isOpen", "(I)Z"⟩, 14), (⟨"ResetRoomsModel", "pass", "(I)V"⟩, 14), (⟨"ResetRoomsModel", "clueAtHand", "(I)Z"⟩, 14), (⟨"ResetRoomsModel", "propAtHand", "(I)Z"⟩, 14), (⟨"ResetRoomsModel", "isHeld", "(I)Z"⟩, 14)]
theorem lw_r2 : ∀ q ∈ lw_privs_2, lw_okq q := List.forall_mem_cons.mpr ⟨lw_p16, List.forall_mem_cons.mpr ⟨lw_p17, List.forall_mem_cons.mpr ⟨lw_p18, List.forall_mem_cons.mpr ⟨lw_p19, List.forall_mem_cons.mpr ⟨lw_p20, List.forall_mem_cons.mpr ⟨lw_p21, List.forall_mem_cons.mpr ⟨lw_p22, List.forall_mem_cons.mpr ⟨lw_p23, List.forall_mem_cons.mpr ⟨lw_p24, List.forall_mem_cons.mpr ⟨lw_p25, List.forall_mem_cons.mpr ⟨lw_p26, List.forall_mem_cons.mpr ⟨lw_p27, List.forall_mem_cons.mpr ⟨lw_p28, List.forall_mem_cons.mpr ⟨lw_p29, List.forall_mem_cons.mpr ⟨lw_p30, List.forall_mem_cons.mpr ⟨lw_p31, fun _ h => absurd h List.not_mem_nil⟩⟩⟩⟩⟩⟩⟩⟩⟩⟩⟩⟩⟩⟩⟩⟩
theorem lw_p32 : lw_okq (⟨"ResetRoomsModel", "closedFrom", "(I)I"⟩, 14) := ⟨⟨by decide +kernel, by decide +kernel⟩, List.mem_of_getElem? (i := 897) (by decide +kernel), List.mem_of_getElem? (i := 1071) (by decide +kernel), List.mem_of_getElem? (i := 1072) (by decide +kernel)⟩
theorem lw_p33 : lw_okq (⟨"ResetRoomsModel", "notAtHome", "()I"⟩, 14) := ⟨⟨by decide +kernel, by decide +kernel⟩, List.mem_of_getElem? (i := 897) (by decide +kernel), List.mem_of_getElem? (i := 1075) (by decide +kernel), List.mem_of_getElem? (i := 1076) (by decide +kernel)⟩
theorem lw_p34 : lw_okq (⟨"ResetRoomsModel", "openOnes", "()I"⟩, 14) := ⟨⟨by decide +kernel, by decide +kernel⟩, List.mem_of_getElem? (i := 897) (by decide +kernel), List.mem_of_getElem? (i := 1079) (by decide +kernel), List.mem_of_getElem? (i := 1080) (by decide +kernel)⟩
theorem lw_p35 : lw_okq (⟨"ResetRoomsModel", "held", "()I"⟩, 14) := ⟨⟨by decide +kernel, by decide +kernel⟩, List.mem_of_getElem? (i := 897) (by decide +kernel), List.mem_of_getElem? (i := 1087) (by decide +kernel), List.mem_of_getElem? (i := 1088) (by decide +kernel)⟩
theorem lw_p36 : lw_okq (⟨"ResetRoomsModel", "lessHalf", "(I)I"⟩, 14) := ⟨⟨by decide +kernel, by decide +kernel⟩, List.mem_of_getElem? (i := 897) (by decide +kernel), List.mem_of_getElem? (i := 1091) (by decide +kernel), List.mem_of_getElem? (i := 1092) (by decide +kernel)⟩
theorem lw_p37 : lw_okq (⟨"ResetRoomsModel", "isOver", "(I)Z"⟩, 14) := ⟨⟨by decide +kernel, by decide +kernel⟩, List.mem_of_getElem? (i := 897) (by decide +kernel), List.mem_of_getElem? (i := 1095) (by decide +kernel), List.mem_of_getElem? (i := 1096) (by decide +kernel)⟩
theorem lw_p38 : lw_okq (⟨"ResetRoomsModel", "minutesLeft", "()I"⟩, 14) := ⟨⟨by decide +kernel, by decide +kernel⟩, List.mem_of_getElem? (i := 897) (by decide +kernel), List.mem_of_getElem? (i := 1099) (by decide +kernel), List.mem_of_getElem? (i := 1100) (by decide +kernel)⟩
theorem lw_p39 : lw_okq (⟨"ResetRoomsModel", "note", "(III)V"⟩, 14) := ⟨⟨by decide +kernel, by decide +kernel⟩, List.mem_of_getElem? (i := 897) (by decide +kernel), List.mem_of_getElem? (i := 1103) (by decide +kernel), List.mem_of_getElem? (i := 1104) (by decide +kernel)⟩
theorem lw_p40 : lw_okq (⟨"ResetRoomsModel", "end", "(I)V"⟩, 14) := ⟨⟨by decide +kernel, by decide +kernel⟩, List.mem_of_getElem? (i := 897) (by decide +kernel), List.mem_of_getElem? (i := 1107) (by decide +kernel), List.mem_of_getElem? (i := 1108) (by decide +kernel)⟩
theorem lw_p41 : lw_okq (⟨"ResetRoomsModel", "boxAtHand", "(I)Z"⟩, 14) := ⟨⟨by decide +kernel, by decide +kernel⟩, List.mem_of_getElem? (i := 897) (by decide +kernel), List.mem_of_getElem? (i := 1115) (by decide +kernel), List.mem_of_getElem? (i := 1116) (by decide +kernel)⟩
theorem lw_p42 : lw_okq (⟨"ResetRoomsModel", "closedAround", "(I)I"⟩, 14) := ⟨⟨by decide +kernel, by decide +kernel⟩, List.mem_of_getElem? (i := 897) (by decide +kernel), List.mem_of_getElem? (i := 1119) (by decide +kernel), List.mem_of_getElem? (i := 1120) (by decide +kernel)⟩
theorem lw_p43 : lw_okq (⟨"ResetRoomsModel", "lets", "(I)Z"⟩, 14) := ⟨⟨by decide +kernel, by decide +kernel⟩, List.mem_of_getElem? (i := 897) (by decide +kernel), List.mem_of_getElem? (i := 1127) (by decide +kernel), List.mem_of_getElem? (i := 1128) (by decide +kernel)⟩
theorem lw_p44 : lw_okq (⟨"ResetRoomsModel", "noClue", "(I)Z"⟩, 14) := ⟨⟨by decide +kernel, by decide +kernel⟩, List.mem_of_getElem? (i := 897) (by decide +kernel), List.mem_of_getElem? (i := 1135) (by decide +kernel), List.mem_of_getElem? (i := 1136) (by decide +kernel)⟩
theorem lw_p45 : lw_okq (⟨"ResetRoomsModel", "readMinutes", "(I)I"⟩, 14) := ⟨⟨by decide +kernel, by decide +kernel⟩, List.mem_of_getElem? (i := 897) (by decide +kernel), List.mem_of_getElem? (i := 1139) (by decide +kernel), List.mem_of_getElem? (i := 1140) (by decide +kernel)⟩
theorem lw_p46 : lw_okq (⟨"ResetRoomsModel", "learn", "(I)V"⟩, 14) := ⟨⟨by decide +kernel, by decide +kernel⟩, List.mem_of_getElem? (i := 897) (by decide +kernel), List.mem_of_getElem? (i := 1143) (by decide +kernel), List.mem_of_getElem? (i := 1144) (by decide +kernel)⟩
theorem lw_p47 : lw_okq (⟨"ResetRoomsModel", "digitOf", "(I)I"⟩, 14) := ⟨⟨by decide +kernel, by decide +kernel⟩, List.mem_of_getElem? (i := 897) (by decide +kernel), List.mem_of_getElem? (i := 1147) (by decide +kernel), List.mem_of_getElem? (i := 1148) (by decide +kernel)⟩
def lw_privs_3 : List (MethodName × Nat) := [(⟨"ResetRoomsModel", "closedFrom", "(I)I"⟩, 14), (⟨"ResetRoomsModel", "notAtHome", "()I"⟩, 14), (⟨"ResetRoomsModel", "openOnes", "()I"⟩, 14), (⟨"ResetRoomsModel", "held", "()I"⟩, 14), (⟨"ResetRoomsModel", "lessHalf", "(I)I"⟩, 14), (⟨"ResetRoomsModel", "isOver", "(I)Z"⟩, 14), (⟨"ResetRoomsModel", "minutesLeft", "()I"⟩, 14), (⟨"ResetRoomsModel", "note", "(III)V"⟩, 14), (⟨"ResetRoomsModel", "end", "(I)V"⟩, 14), (⟨"ResetRoomsModel", "boxAtHand", "(I)Z"⟩, 14), (⟨"ResetRoomsModel", "closedAround", "(I)I"⟩, 14), (⟨"ResetRoomsModel", "lets", "(I)Z"⟩, 14), (⟨"ResetRoomsModel", "noClue", "(I)Z"⟩, 14), (⟨"ResetRoomsModel", "readMinutes", "(I)I"⟩, 14), (⟨"ResetRoomsModel", "learn", "(I)V"⟩, 14), (⟨"ResetRoomsModel", "digitOf", "(I)I"⟩, 14)]
theorem lw_r3 : ∀ q ∈ lw_privs_3, lw_okq q := List.forall_mem_cons.mpr ⟨lw_p32, List.forall_mem_cons.mpr ⟨lw_p33, List.forall_mem_cons.mpr ⟨lw_p34, List.forall_mem_cons.mpr ⟨lw_p35, List.forall_mem_cons.mpr ⟨lw_p36, List.forall_mem_cons.mpr ⟨lw_p37, List.forall_mem_cons.mpr ⟨lw_p38, List.forall_mem_cons.mpr ⟨lw_p39, List.forall_mem_cons.mpr ⟨lw_p40, List.forall_mem_cons.mpr ⟨lw_p41, List.forall_mem_cons.mpr ⟨lw_p42, List.forall_mem_cons.mpr ⟨lw_p43, List.forall_mem_cons.mpr ⟨lw_p44, List.forall_mem_cons.mpr ⟨lw_p45, List.forall_mem_cons.mpr ⟨lw_p46, List.forall_mem_cons.mpr ⟨lw_p47, fun _ h => absurd h List.not_mem_nil⟩⟩⟩⟩⟩⟩⟩⟩⟩⟩⟩⟩⟩⟩⟩⟩
theorem lw_p48 : lw_okq (⟨"ResetRoomsModel", "step", "()I"⟩, 14) := ⟨⟨by decide +kernel, by decide +kernel⟩, List.mem_of_getElem? (i := 897) (by decide +kernel), List.mem_of_getElem? (i := 1159) (by decide +kernel), List.mem_of_getElem? (i := 1160) (by decide +kernel)⟩
theorem lw_p49 : lw_okq (⟨"ResetRoomsModel", "stepFor", "(I)I"⟩, 14) := ⟨⟨by decide +kernel, by decide +kernel⟩, List.mem_of_getElem? (i := 897) (by decide +kernel), List.mem_of_getElem? (i := 1163) (by decide +kernel), List.mem_of_getElem? (i := 1164) (by decide +kernel)⟩
theorem lw_p50 : lw_okq (⟨"ResetRoomsModel", "lowestUnknown", "(I)I"⟩, 14) := ⟨⟨by decide +kernel, by decide +kernel⟩, List.mem_of_getElem? (i := 897) (by decide +kernel), List.mem_of_getElem? (i := 1167) (by decide +kernel), List.mem_of_getElem? (i := 1168) (by decide +kernel)⟩
theorem lw_p51 : lw_okq (⟨"ResetRoomsModel", "clueFor", "(IIZ)I"⟩, 14) := ⟨⟨by decide +kernel, by decide +kernel⟩, List.mem_of_getElem? (i := 897) (by decide +kernel), List.mem_of_getElem? (i := 1171) (by decide +kernel), List.mem_of_getElem? (i := 1172) (by decide +kernel)⟩
theorem lw_p52 : lw_okq (⟨"ResetRoomsModel", "stepToHold", "(I)I"⟩, 14) := ⟨⟨by decide +kernel, by decide +kernel⟩, List.mem_of_getElem? (i := 897) (by decide +kernel), List.mem_of_getElem? (i := 1175) (by decide +kernel), List.mem_of_getElem? (i := 1176) (by decide +kernel)⟩
theorem lw_p53 : lw_okq (⟨"ResetRoomsModel", "lowestHeld", "()I"⟩, 14) := ⟨⟨by decide +kernel, by decide +kernel⟩, List.mem_of_getElem? (i := 897) (by decide +kernel), List.mem_of_getElem? (i := 1179) (by decide +kernel), List.mem_of_getElem? (i := 1180) (by decide +kernel)⟩
theorem lw_p54 : lw_okq (⟨"ResetRoomsModel", "planned", "(I)I"⟩, 14) := ⟨⟨by decide +kernel, by decide +kernel⟩, List.mem_of_getElem? (i := 897) (by decide +kernel), List.mem_of_getElem? (i := 1195) (by decide +kernel), List.mem_of_getElem? (i := 1196) (by decide +kernel)⟩
theorem lw_p55 : lw_okq (⟨"ResetRoomsModel", "resetMinutes", "()I"⟩, 14) := ⟨⟨by decide +kernel, by decide +kernel⟩, List.mem_of_getElem? (i := 897) (by decide +kernel), List.mem_of_getElem? (i := 1219) (by decide +kernel), List.mem_of_getElem? (i := 1220) (by decide +kernel)⟩
theorem lw_p56 : lw_okq (⟨"ResetRoomsModel", "written", "(ZZ)I"⟩, 14) := ⟨⟨by decide +kernel, by decide +kernel⟩, List.mem_of_getElem? (i := 897) (by decide +kernel), List.mem_of_getElem? (i := 1223) (by decide +kernel), List.mem_of_getElem? (i := 1224) (by decide +kernel)⟩
theorem lw_p57 : lw_okq (⟨"ResetRoomsModel", "propsIn", "(I)I"⟩, 14) := ⟨⟨by decide +kernel, by decide +kernel⟩, List.mem_of_getElem? (i := 897) (by decide +kernel), List.mem_of_getElem? (i := 1231) (by decide +kernel), List.mem_of_getElem? (i := 1232) (by decide +kernel)⟩
theorem lw_p58 : lw_okq (⟨"ResetRoomsModel", "boxesIn", "(I)I"⟩, 14) := ⟨⟨by decide +kernel, by decide +kernel⟩, List.mem_of_getElem? (i := 897) (by decide +kernel), List.mem_of_getElem? (i := 1235) (by decide +kernel), List.mem_of_getElem? (i := 1236) (by decide +kernel)⟩
theorem lw_p59 : lw_okq (⟨"ResetRoomsModel", "cluesOn", "(I)I"⟩, 14) := ⟨⟨by decide +kernel, by decide +kernel⟩, List.mem_of_getElem? (i := 897) (by decide +kernel), List.mem_of_getElem? (i := 1243) (by decide +kernel), List.mem_of_getElem? (i := 1244) (by decide +kernel)⟩
theorem lw_p60 : lw_okq (⟨"ResetRoomsModel", "locksWith", "(I)I"⟩, 14) := ⟨⟨by decide +kernel, by decide +kernel⟩, List.mem_of_getElem? (i := 897) (by decide +kernel), List.mem_of_getElem? (i := 1247) (by decide +kernel), List.mem_of_getElem? (i := 1248) (by decide +kernel)⟩
theorem lw_p61 : lw_okq (⟨"ResetRoomsModel", "heldSet", "()I"⟩, 14) := ⟨⟨by decide +kernel, by decide +kernel⟩, List.mem_of_getElem? (i := 897) (by decide +kernel), List.mem_of_getElem? (i := 1259) (by decide +kernel), List.mem_of_getElem? (i := 1260) (by decide +kernel)⟩
theorem lw_p62 : lw_okq (⟨"ResetRoomsModel", "startOf", "(I)I"⟩, 14) := ⟨⟨by decide +kernel, by decide +kernel⟩, List.mem_of_getElem? (i := 897) (by decide +kernel), List.mem_of_getElem? (i := 1267) (by decide +kernel), List.mem_of_getElem? (i := 1268) (by decide +kernel)⟩
theorem lw_p63 : lw_okq (⟨"ResetRoomsModel", "faded", "()I"⟩, 14) := ⟨⟨by decide +kernel, by decide +kernel⟩, List.mem_of_getElem? (i := 897) (by decide +kernel), List.mem_of_getElem? (i := 1279) (by decide +kernel), List.mem_of_getElem? (i := 1280) (by decide +kernel)⟩
def lw_privs_4 : List (MethodName × Nat) := [(⟨"ResetRoomsModel", "step", "()I"⟩, 14), (⟨"ResetRoomsModel", "stepFor", "(I)I"⟩, 14), (⟨"ResetRoomsModel", "lowestUnknown", "(I)I"⟩, 14), (⟨"ResetRoomsModel", "clueFor", "(IIZ)I"⟩, 14), (⟨"ResetRoomsModel", "stepToHold", "(I)I"⟩, 14), (⟨"ResetRoomsModel", "lowestHeld", "()I"⟩, 14), (⟨"ResetRoomsModel", "planned", "(I)I"⟩, 14), (⟨"ResetRoomsModel", "resetMinutes", "()I"⟩, 14), (⟨"ResetRoomsModel", "written", "(ZZ)I"⟩, 14), (⟨"ResetRoomsModel", "propsIn", "(I)I"⟩, 14), (⟨"ResetRoomsModel", "boxesIn", "(I)I"⟩, 14), (⟨"ResetRoomsModel", "cluesOn", "(I)I"⟩, 14), (⟨"ResetRoomsModel", "locksWith", "(I)I"⟩, 14), (⟨"ResetRoomsModel", "heldSet", "()I"⟩, 14), (⟨"ResetRoomsModel", "startOf", "(I)I"⟩, 14), (⟨"ResetRoomsModel", "faded", "()I"⟩, 14)]
theorem lw_r4 : ∀ q ∈ lw_privs_4, lw_okq q := List.forall_mem_cons.mpr ⟨lw_p48, List.forall_mem_cons.mpr ⟨lw_p49, List.forall_mem_cons.mpr ⟨lw_p50, List.forall_mem_cons.mpr ⟨lw_p51, List.forall_mem_cons.mpr ⟨lw_p52, List.forall_mem_cons.mpr ⟨lw_p53, List.forall_mem_cons.mpr ⟨lw_p54, List.forall_mem_cons.mpr ⟨lw_p55, List.forall_mem_cons.mpr ⟨lw_p56, List.forall_mem_cons.mpr ⟨lw_p57, List.forall_mem_cons.mpr ⟨lw_p58, List.forall_mem_cons.mpr ⟨lw_p59, List.forall_mem_cons.mpr ⟨lw_p60, List.forall_mem_cons.mpr ⟨lw_p61, List.forall_mem_cons.mpr ⟨lw_p62, List.forall_mem_cons.mpr ⟨lw_p63, fun _ h => absurd h List.not_mem_nil⟩⟩⟩⟩⟩⟩⟩⟩⟩⟩⟩⟩⟩⟩⟩⟩
theorem lw_p64 : lw_okq (⟨"ResetRoomsModel", "spell", "(I)V"⟩, 14) := ⟨⟨by decide +kernel, by decide +kernel⟩, List.mem_of_getElem? (i := 897) (by decide +kernel), List.mem_of_getElem? (i := 1287) (by decide +kernel), List.mem_of_getElem? (i := 1288) (by decide +kernel)⟩
theorem lw_p65 : lw_okq (⟨"ResetRoomsModel", "putNumber", "(I)V"⟩, 14) := ⟨⟨by decide +kernel, by decide +kernel⟩, List.mem_of_getElem? (i := 897) (by decide +kernel), List.mem_of_getElem? (i := 1291) (by decide +kernel), List.mem_of_getElem? (i := 1292) (by decide +kernel)⟩
theorem lw_p66 : lw_okq (⟨"ResetRoomsModel", "put", "(I)V"⟩, 14) := ⟨⟨by decide +kernel, by decide +kernel⟩, List.mem_of_getElem? (i := 897) (by decide +kernel), List.mem_of_getElem? (i := 1295) (by decide +kernel), List.mem_of_getElem? (i := 1296) (by decide +kernel)⟩
theorem lw_p67 : lw_okq (⟨"ResetRoomsModel", "behind", "()I"⟩, 14) := ⟨⟨by decide +kernel, by decide +kernel⟩, List.mem_of_getElem? (i := 897) (by decide +kernel), List.mem_of_getElem? (i := 1312) (by decide +kernel), List.mem_of_getElem? (i := 1313) (by decide +kernel)⟩
theorem lw_p68 : lw_okq (⟨"ResetRoomsModel", "wins", "()I"⟩, 14) := ⟨⟨by decide +kernel, by decide +kernel⟩, List.mem_of_getElem? (i := 897) (by decide +kernel), List.mem_of_getElem? (i := 1316) (by decide +kernel), List.mem_of_getElem? (i := 1317) (by decide +kernel)⟩
theorem lw_p69 : lw_okq (⟨"ResetRoomsModel", "logLength", "()I"⟩, 14) := ⟨⟨by decide +kernel, by decide +kernel⟩, List.mem_of_getElem? (i := 897) (by decide +kernel), List.mem_of_getElem? (i := 1320) (by decide +kernel), List.mem_of_getElem? (i := 1321) (by decide +kernel)⟩
def lw_privs_5 : List (MethodName × Nat) := [(⟨"ResetRoomsModel", "spell", "(I)V"⟩, 14), (⟨"ResetRoomsModel", "putNumber", "(I)V"⟩, 14), (⟨"ResetRoomsModel", "put", "(I)V"⟩, 14), (⟨"ResetRoomsModel", "behind", "()I"⟩, 14), (⟨"ResetRoomsModel", "wins", "()I"⟩, 14), (⟨"ResetRoomsModel", "logLength", "()I"⟩, 14)]
theorem lw_r5 : ∀ q ∈ lw_privs_5, lw_okq q := List.forall_mem_cons.mpr ⟨lw_p64, List.forall_mem_cons.mpr ⟨lw_p65, List.forall_mem_cons.mpr ⟨lw_p66, List.forall_mem_cons.mpr ⟨lw_p67, List.forall_mem_cons.mpr ⟨lw_p68, List.forall_mem_cons.mpr ⟨lw_p69, fun _ h => absurd h List.not_mem_nil⟩⟩⟩⟩⟩⟩
def lw_privs : List (MethodName × Nat) := lw_privs_1 ++ (lw_privs_2 ++ (lw_privs_3 ++ (lw_privs_4 ++ (lw_privs_5))))
def lw_tbl : List Cond := k2_sels lw_privs ++ tables_1
theorem lw_privs_ok : ∀ q ∈ lw_privs, lw_okq q := by
  show ∀ q ∈ lw_privs_1 ++ (lw_privs_2 ++ (lw_privs_3 ++ (lw_privs_4 ++ (lw_privs_5)))), lw_okq q
  exact List.forall_mem_append.mpr ⟨lw_r1, List.forall_mem_append.mpr ⟨lw_r2, List.forall_mem_append.mpr ⟨lw_r3, List.forall_mem_append.mpr ⟨lw_r4, lw_r5⟩⟩⟩⟩

def RX0 : String := "ResetRooms$BoxText"
def TX0 : u_T := fun k => match k with
  | 0 => ("ResetRooms$BoxText", "signs", "[I", true)
  | 1 => ("ResetRooms$BoxText", "length", "I", false)
  | 2 => ("ResetRooms$BoxText", "outer", "I", false)
  | 3 => ("ResetRooms$BoxText", "lock", "I", false)
  | 4 => ("ResetRooms$BoxText", "item", "I", false)
  | 5 => ("ResetRooms$BoxText", "position", "I", false)
  | _ => ("ResetRooms$BoxText", "number", "I", false)
def tyX0 : Nat → FieldType := fun k => match k with
  | 0 => .array .int
  | 1 => .int
  | 2 => .int
  | 3 => .int
  | 4 => .int
  | 5 => .int
  | _ => .int
theorem nmX0 : ∀ a, a < 7 → ∀ b, b < 7 → a ≠ b → (TX0 a).2.1 ≠ (TX0 b).2.1 := by decide +kernel
theorem tyX0_ok : ∀ k, k < 7 → parseFieldDescriptor (TX0 k).2.2.1 = some (tyX0 k) := by decide +kernel
abbrev cX0_init : ByteArray := prog_2_method_1_code
def yX0_init : MethodName := ⟨RX0, "<init>", "()V"⟩
abbrev cX0_findFault : ByteArray := prog_2_method_2_code
def yX0_findFault : MethodName := ⟨RX0, "findFault", "()I"⟩
abbrev cX0_matchesLock : ByteArray := prog_2_method_3_code
def yX0_matchesLock : MethodName := ⟨RX0, "matchesLock", "()Z"⟩
abbrev cX0_matchesDigits : ByteArray := prog_2_method_4_code
def yX0_matchesDigits : MethodName := ⟨RX0, "matchesDigits", "(II)Z"⟩
abbrev cX0_matchesWord : ByteArray := prog_2_method_5_code
def yX0_matchesWord : MethodName := ⟨RX0, "matchesWord", "(Ljava/lang/String;)Z"⟩
abbrev cX0_digitHere : ByteArray := prog_2_method_6_code
def yX0_digitHere : MethodName := ⟨RX0, "digitHere", "()Z"⟩
abbrev cX0_signHere : ByteArray := prog_2_method_7_code
def yX0_signHere : MethodName := ⟨RX0, "signHere", "()I"⟩
def RX1 : String := "ResetRooms$Game"
def TX1 : u_T := fun k => match k with
  | 0 => ("ResetRooms$Game", "running", "Z", false)
  | 1 => ("ResetRooms$Game", "players", "I", false)
  | 2 => ("ResetRooms$Game", "wanted", "I", false)
  | 3 => ("ResetRooms$Game", "start", "I", false)
  | 4 => ("ResetRooms$Game", "nudgesTold", "I", false)
  | 5 => ("ResetRooms$Game", "wrongCodes", "I", false)
  | _ => ("ResetRooms$Game", "differences", "I", false)
def tyX1 : Nat → FieldType := fun k => match k with
  | 0 => .boolean
  | 1 => .int
  | 2 => .int
  | 3 => .int
  | 4 => .int
  | 5 => .int
  | _ => .int
theorem nmX1 : ∀ a, a < 7 → ∀ b, b < 7 → a ≠ b → (TX1 a).2.1 ≠ (TX1 b).2.1 := by decide +kernel
theorem tyX1_ok : ∀ k, k < 7 → parseFieldDescriptor (TX1 k).2.2.1 = some (tyX1 k) := by decide +kernel
abbrev cX1_init : ByteArray := prog_3_method_1_code
def yX1_init : MethodName := ⟨RX1, "<init>", "()V"⟩
abbrev cX1_copyFrom : ByteArray := prog_3_method_2_code
def yX1_copyFrom : MethodName := ⟨RX1, "copyFrom", "(LResetRooms$Game;)V"⟩
def RX2 : String := "ResetRooms$Log"
def TX2 : u_T := fun k => match k with
  | 0 => ("ResetRooms$Log", "length", "I", false)
  | _ => ("ResetRooms$Log", "signs", "[I", true)
def tyX2 : Nat → FieldType := fun k => match k with
  | 0 => .int
  | _ => .array .int
theorem nmX2 : ∀ a, a < 2 → ∀ b, b < 2 → a ≠ b → (TX2 a).2.1 ≠ (TX2 b).2.1 := by decide +kernel
theorem tyX2_ok : ∀ k, k < 2 → parseFieldDescriptor (TX2 k).2.2.1 = some (tyX2 k) := by decide +kernel
abbrev cX2_init : ByteArray := prog_4_method_1_code
def yX2_init : MethodName := ⟨RX2, "<init>", "()V"⟩
abbrev cX2_copyFrom : ByteArray := prog_4_method_2_code
def yX2_copyFrom : MethodName := ⟨RX2, "copyFrom", "(LResetRooms$Log;)V"⟩
abbrev cX2_append : ByteArray := prog_4_method_3_code
def yX2_append : MethodName := ⟨RX2, "append", "(ILjava/lang/String;II)V"⟩
abbrev cX2_appendArgument : ByteArray := prog_4_method_4_code
def yX2_appendArgument : MethodName := ⟨RX2, "appendArgument", "(I)V"⟩
abbrev cX2_appendNumber : ByteArray := prog_4_method_5_code
def yX2_appendNumber : MethodName := ⟨RX2, "appendNumber", "(I)V"⟩
abbrev cX2_appendSign : ByteArray := prog_4_method_6_code
def yX2_appendSign : MethodName := ⟨RX2, "appendSign", "(I)V"⟩
def RX3 : String := "ResetRooms$Queue"
def TX3 : u_T := fun k => match k with
  | 0 => ("ResetRooms$Queue", "waiting", "I", false)
  | 1 => ("ResetRooms$Queue", "players", "[I", true)
  | _ => ("ResetRooms$Queue", "starts", "[I", true)
def tyX3 : Nat → FieldType := fun k => match k with
  | 0 => .int
  | 1 => .array .int
  | _ => .array .int
theorem nmX3 : ∀ a, a < 3 → ∀ b, b < 3 → a ≠ b → (TX3 a).2.1 ≠ (TX3 b).2.1 := by decide +kernel
theorem tyX3_ok : ∀ k, k < 3 → parseFieldDescriptor (TX3 k).2.2.1 = some (tyX3 k) := by decide +kernel
abbrev cX3_init : ByteArray := prog_5_method_1_code
def yX3_init : MethodName := ⟨RX3, "<init>", "()V"⟩
abbrev cX3_copyFrom : ByteArray := prog_5_method_2_code
def yX3_copyFrom : MethodName := ⟨RX3, "copyFrom", "(LResetRooms$Queue;)V"⟩
abbrev cX3_hasGroup : ByteArray := prog_5_method_3_code
def yX3_hasGroup : MethodName := ⟨RX3, "hasGroup", "(I)Z"⟩
abbrev cX3_append : ByteArray := prog_5_method_4_code
def yX3_append : MethodName := ⟨RX3, "append", "(II)V"⟩
abbrev cX3_remove : ByteArray := prog_5_method_5_code
def yX3_remove : MethodName := ⟨RX3, "remove", "(I)V"⟩
abbrev cX3_waitingBefore : ByteArray := prog_5_method_6_code
def yX3_waitingBefore : MethodName := ⟨RX3, "waitingBefore", "(I)I"⟩
def RX4 : String := "ResetRooms$Results"
def TX4 : u_T := fun k => match k with
  | 0 => ("ResetRooms$Results", "count", "I", false)
  | _ => ("ResetRooms$Results", "parts", "[I", true)
def tyX4 : Nat → FieldType := fun k => match k with
  | 0 => .int
  | _ => .array .int
theorem nmX4 : ∀ a, a < 2 → ∀ b, b < 2 → a ≠ b → (TX4 a).2.1 ≠ (TX4 b).2.1 := by decide +kernel
theorem tyX4_ok : ∀ k, k < 2 → parseFieldDescriptor (TX4 k).2.2.1 = some (tyX4 k) := by decide +kernel
abbrev cX4_init : ByteArray := prog_6_method_1_code
def yX4_init : MethodName := ⟨RX4, "<init>", "()V"⟩
abbrev cX4_copyFrom : ByteArray := prog_6_method_2_code
def yX4_copyFrom : MethodName := ⟨RX4, "copyFrom", "(LResetRooms$Results;)V"⟩
abbrev cX4_append : ByteArray := prog_6_method_3_code
def yX4_append : MethodName := ⟨RX4, "append", "(LResetRooms$Game;II)V"⟩
abbrev cX4_wins : ByteArray := prog_6_method_4_code
def yX4_wins : MethodName := ⟨RX4, "wins", "()I"⟩
def RX5 : String := "ResetRooms$Room"
def TX5 : u_T := fun k => match k with
  | 0 => ("ResetRooms$Room", "boxCount", "I", false)
  | 1 => ("ResetRooms$Room", "outer", "[I", true)
  | 2 => ("ResetRooms$Room", "lock", "[I", true)
  | 3 => ("ResetRooms$Room", "item", "[I", true)
  | 4 => ("ResetRooms$Room", "opened", "[I", true)
  | 5 => ("ResetRooms$Room", "known", "[I", true)
  | 6 => ("ResetRooms$Room", "propCount", "I", false)
  | 7 => ("ResetRooms$Room", "home", "[I", true)
  | 8 => ("ResetRooms$Room", "lies", "[I", true)
  | 9 => ("ResetRooms$Room", "clueCount", "I", false)
  | 10 => ("ResetRooms$Room", "clueProp", "[I", true)
  | 11 => ("ResetRooms$Room", "clueBox", "[I", true)
  | 12 => ("ResetRooms$Room", "cluePlace", "[I", true)
  | 13 => ("ResetRooms$Room", "ink", "[I", true)
  | 14 => ("ResetRooms$Room", "exit", "I", false)
  | _ => ("ResetRooms$Room", "hands", "I", false)
def tyX5 : Nat → FieldType := fun k => match k with
  | 0 => .int
  | 1 => .array .int
  | 2 => .array .int
  | 3 => .array .int
  | 4 => .array .int
  | 5 => .array .int
  | 6 => .int
  | 7 => .array .int
  | 8 => .array .int
  | 9 => .int
  | 10 => .array .int
  | 11 => .array .int
  | 12 => .array .int
  | 13 => .array .int
  | 14 => .int
  | _ => .int
theorem nmX5 : ∀ a, a < 16 → ∀ b, b < 16 → a ≠ b → (TX5 a).2.1 ≠ (TX5 b).2.1 := by decide +kernel
theorem tyX5_ok : ∀ k, k < 16 → parseFieldDescriptor (TX5 k).2.2.1 = some (tyX5 k) := by decide +kernel
abbrev cX5_init : ByteArray := prog_7_method_1_code
def yX5_init : MethodName := ⟨RX5, "<init>", "()V"⟩
abbrev cX5_copyFrom : ByteArray := prog_7_method_2_code
def yX5_copyFrom : MethodName := ⟨RX5, "copyFrom", "(LResetRooms$Room;)V"⟩
abbrev cX5_appendBox : ByteArray := prog_7_method_3_code
def yX5_appendBox : MethodName := ⟨RX5, "appendBox", "(III)I"⟩
abbrev cX5_appendProp : ByteArray := prog_7_method_4_code
def yX5_appendProp : MethodName := ⟨RX5, "appendProp", "(I)I"⟩
abbrev cX5_appendClue : ByteArray := prog_7_method_5_code
def yX5_appendClue : MethodName := ⟨RX5, "appendClue", "(III)I"⟩
abbrev cX5_hasBox : ByteArray := prog_7_method_6_code
def yX5_hasBox : MethodName := ⟨RX5, "hasBox", "(I)Z"⟩
abbrev cX5_hasProp : ByteArray := prog_7_method_7_code
def yX5_hasProp : MethodName := ⟨RX5, "hasProp", "(I)Z"⟩
abbrev cX5_hasClue : ByteArray := prog_7_method_8_code
def yX5_hasClue : MethodName := ⟨RX5, "hasClue", "(I)Z"⟩
abbrev cX5_hasLock : ByteArray := prog_7_method_9_code
def yX5_hasLock : MethodName := ⟨RX5, "hasLock", "(II)Z"⟩
abbrev cX5_isOpen : ByteArray := prog_7_method_10_code
def yX5_isOpen : MethodName := ⟨RX5, "isOpen", "(I)Z"⟩
abbrev cX5_isHeld : ByteArray := prog_7_method_11_code
def yX5_isHeld : MethodName := ⟨RX5, "isHeld", "(I)Z"⟩
abbrev cX5_outermostClosed : ByteArray := prog_7_method_12_code
def yX5_outermostClosed : MethodName := ⟨RX5, "outermostClosed", "(I)I"⟩
abbrev cX5_boxAtHand : ByteArray := prog_7_method_13_code
def yX5_boxAtHand : MethodName := ⟨RX5, "boxAtHand", "(I)Z"⟩
abbrev cX5_propAtHand : ByteArray := prog_7_method_14_code
def yX5_propAtHand : MethodName := ⟨RX5, "propAtHand", "(I)Z"⟩
abbrev cX5_clueAtHand : ByteArray := prog_7_method_15_code
def yX5_clueAtHand : MethodName := ⟨RX5, "clueAtHand", "(I)Z"⟩
abbrev cX5_canBeOpened : ByteArray := prog_7_method_16_code
def yX5_canBeOpened : MethodName := ⟨RX5, "canBeOpened", "(I)Z"⟩
abbrev cX5_propsIn : ByteArray := prog_7_method_17_code
def yX5_propsIn : MethodName := ⟨RX5, "propsIn", "(I)I"⟩
abbrev cX5_heldProps : ByteArray := prog_7_method_18_code
def yX5_heldProps : MethodName := ⟨RX5, "heldProps", "()I"⟩
abbrev cX5_heldBits : ByteArray := prog_7_method_19_code
def yX5_heldBits : MethodName := ⟨RX5, "heldBits", "()I"⟩
abbrev cX5_boxesIn : ByteArray := prog_7_method_20_code
def yX5_boxesIn : MethodName := ⟨RX5, "boxesIn", "(I)I"⟩
abbrev cX5_cluesOn : ByteArray := prog_7_method_21_code
def yX5_cluesOn : MethodName := ⟨RX5, "cluesOn", "(I)I"⟩
abbrev cX5_locksWith : ByteArray := prog_7_method_22_code
def yX5_locksWith : MethodName := ⟨RX5, "locksWith", "(I)I"⟩
abbrev cX5_propsAway : ByteArray := prog_7_method_23_code
def yX5_propsAway : MethodName := ⟨RX5, "propsAway", "()I"⟩
abbrev cX5_openBoxes : ByteArray := prog_7_method_24_code
def yX5_openBoxes : MethodName := ⟨RX5, "openBoxes", "()I"⟩
abbrev cX5_paleClues : ByteArray := prog_7_method_25_code
def yX5_paleClues : MethodName := ⟨RX5, "paleClues", "()I"⟩
abbrev cX5_isPale : ByteArray := prog_7_method_26_code
def yX5_isPale : MethodName := ⟨RX5, "isPale", "(I)Z"⟩
abbrev cX5_inkLack : ByteArray := prog_7_method_27_code
def yX5_inkLack : MethodName := ⟨RX5, "inkLack", "(I)I"⟩
abbrev cX5_fade : ByteArray := prog_7_method_28_code
def yX5_fade : MethodName := ⟨RX5, "fade", "(I)V"⟩
abbrev cX5_clueDigit : ByteArray := prog_7_method_29_code
def yX5_clueDigit : MethodName := ⟨RX5, "clueDigit", "(I)I"⟩
abbrev cX5_readingMinutes : ByteArray := prog_7_method_30_code
def yX5_readingMinutes : MethodName := ⟨RX5, "readingMinutes", "(I)I"⟩
abbrev cX5_learnFromClue : ByteArray := prog_7_method_31_code
def yX5_learnFromClue : MethodName := ⟨RX5, "learnFromClue", "(I)V"⟩
abbrev cX5_learnDigit : ByteArray := prog_7_method_32_code
def yX5_learnDigit : MethodName := ⟨RX5, "learnDigit", "(II)V"⟩
abbrev cX5_forgetDigits : ByteArray := prog_7_method_33_code
def yX5_forgetDigits : MethodName := ⟨RX5, "forgetDigits", "()V"⟩
abbrev cX5_dropHeldProps : ByteArray := prog_7_method_34_code
def yX5_dropHeldProps : MethodName := ⟨RX5, "dropHeldProps", "()V"⟩
abbrev cX5_bringPropsHome : ByteArray := prog_7_method_35_code
def yX5_bringPropsHome : MethodName := ⟨RX5, "bringPropsHome", "()V"⟩
abbrev cX5_closeBoxes : ByteArray := prog_7_method_36_code
def yX5_closeBoxes : MethodName := ⟨RX5, "closeBoxes", "()V"⟩
abbrev cX5_stepFor : ByteArray := prog_7_method_37_code
def yX5_stepFor : MethodName := ⟨RX5, "stepFor", "(I)I"⟩
abbrev cX5_stepForThing : ByteArray := prog_7_method_38_code
def yX5_stepForThing : MethodName := ⟨RX5, "stepForThing", "(I)I"⟩
abbrev cX5_stepToHold : ByteArray := prog_7_method_39_code
def yX5_stepToHold : MethodName := ⟨RX5, "stepToHold", "(I)I"⟩
abbrev cX5_lowestHeld : ByteArray := prog_7_method_40_code
def yX5_lowestHeld : MethodName := ⟨RX5, "lowestHeld", "()I"⟩
abbrev cX5_stepForCode : ByteArray := prog_7_method_41_code
def yX5_stepForCode : MethodName := ⟨RX5, "stepForCode", "(I)I"⟩
abbrev cX5_lowestUnknownPlace : ByteArray := prog_7_method_42_code
def yX5_lowestUnknownPlace : MethodName := ⟨RX5, "lowestUnknownPlace", "(I)I"⟩
abbrev cX5_minutesToExit : ByteArray := prog_7_method_43_code
def yX5_minutesToExit : MethodName := ⟨RX5, "minutesToExit", "()I"⟩
abbrev cX5_follow : ByteArray := prog_7_method_44_code
def yX5_follow : MethodName := ⟨RX5, "follow", "(III)I"⟩
def RX6 : String := "ResetRooms$State"
def TX6 : u_T := fun k => match k with
  | 0 => ("ResetRooms$State", "room", "LResetRooms$Room;", true)
  | 1 => ("ResetRooms$State", "queue", "LResetRooms$Queue;", true)
  | 2 => ("ResetRooms$State", "game", "LResetRooms$Game;", true)
  | 3 => ("ResetRooms$State", "results", "LResetRooms$Results;", true)
  | 4 => ("ResetRooms$State", "log", "LResetRooms$Log;", true)
  | 5 => ("ResetRooms$State", "clock", "I", false)
  | 6 => ("ResetRooms$State", "paint", "I", false)
  | 7 => ("ResetRooms$State", "limit", "I", false)
  | _ => ("ResetRooms$State", "nudges", "I", false)
def tyX6 : Nat → FieldType := fun k => match k with
  | 0 => .object "ResetRooms$Room"
  | 1 => .object "ResetRooms$Queue"
  | 2 => .object "ResetRooms$Game"
  | 3 => .object "ResetRooms$Results"
  | 4 => .object "ResetRooms$Log"
  | 5 => .int
  | 6 => .int
  | 7 => .int
  | _ => .int
theorem nmX6 : ∀ a, a < 9 → ∀ b, b < 9 → a ≠ b → (TX6 a).2.1 ≠ (TX6 b).2.1 := by decide +kernel
theorem tyX6_ok : ∀ k, k < 9 → parseFieldDescriptor (TX6 k).2.2.1 = some (tyX6 k) := by decide +kernel
abbrev cX6_init : ByteArray := prog_8_method_1_code
def yX6_init : MethodName := ⟨RX6, "<init>", "()V"⟩
abbrev cX6_copyFrom : ByteArray := prog_8_method_2_code
def yX6_copyFrom : MethodName := ⟨RX6, "copyFrom", "(LResetRooms$State;)V"⟩
abbrev cX6_pass : ByteArray := prog_8_method_3_code
def yX6_pass : MethodName := ⟨RX6, "pass", "(I)V"⟩
abbrev cX6_gameMinute : ByteArray := prog_8_method_4_code
def yX6_gameMinute : MethodName := ⟨RX6, "gameMinute", "()I"⟩
abbrev cX6_minutesLeft : ByteArray := prog_8_method_5_code
def yX6_minutesLeft : MethodName := ⟨RX6, "minutesLeft", "()I"⟩
abbrev cX6_hasTimeFor : ByteArray := prog_8_method_6_code
def yX6_hasTimeFor : MethodName := ⟨RX6, "hasTimeFor", "(I)Z"⟩
abbrev cX6_note : ByteArray := prog_8_method_7_code
def yX6_note : MethodName := ⟨RX6, "note", "(Ljava/lang/String;II)V"⟩
abbrev cX6_beginGame : ByteArray := prog_8_method_8_code
def yX6_beginGame : MethodName := ⟨RX6, "beginGame", "()I"⟩
abbrev cX6_endGame : ByteArray := prog_8_method_9_code
def yX6_endGame : MethodName := ⟨RX6, "endGame", "(Z)V"⟩
abbrev cX6_runOutOfTime : ByteArray := prog_8_method_10_code
def yX6_runOutOfTime : MethodName := ⟨RX6, "runOutOfTime", "()I"⟩
abbrev cX6_latestStart : ByteArray := prog_8_method_11_code
def yX6_latestStart : MethodName := ⟨RX6, "latestStart", "(I)I"⟩
abbrev cX6_refill : ByteArray := prog_8_method_12_code
def yX6_refill : MethodName := ⟨RX6, "refill", "(I)V"⟩
abbrev cX6_cluesOfReset : ByteArray := prog_8_method_13_code
def yX6_cluesOfReset : MethodName := ⟨RX6, "cluesOfReset", "()I"⟩
abbrev cX6_resetMinutes : ByteArray := prog_8_method_14_code
def yX6_resetMinutes : MethodName := ⟨RX6, "resetMinutes", "()I"⟩
abbrev cX6_resetPaint : ByteArray := prog_8_method_15_code
def yX6_resetPaint : MethodName := ⟨RX6, "resetPaint", "()I"⟩
abbrev cX6_bringToOrder : ByteArray := prog_8_method_16_code
def yX6_bringToOrder : MethodName := ⟨RX6, "bringToOrder", "()V"⟩
def RX7 : String := "ResetRooms"
def TX7 : u_T := fun k => match k with
  | 0 => ("ResetRooms", "text", "LResetRooms$BoxText;", true)
  | 1 => ("ResetRooms", "now", "LResetRooms$State;", true)
  | 2 => ("ResetRooms", "firstSlot", "LResetRooms$State;", true)
  | 3 => ("ResetRooms", "secondSlot", "LResetRooms$State;", true)
  | 4 => ("ResetRooms", "planned", "LResetRooms$Room;", true)
  | _ => ("ResetRooms", "keptSlots", "I", false)
def tyX7 : Nat → FieldType := fun k => match k with
  | 0 => .object "ResetRooms$BoxText"
  | 1 => .object "ResetRooms$State"
  | 2 => .object "ResetRooms$State"
  | 3 => .object "ResetRooms$State"
  | 4 => .object "ResetRooms$Room"
  | _ => .int
theorem nmX7 : ∀ a, a < 6 → ∀ b, b < 6 → a ≠ b → (TX7 a).2.1 ≠ (TX7 b).2.1 := by decide +kernel
theorem tyX7_ok : ∀ k, k < 6 → parseFieldDescriptor (TX7 k).2.2.1 = some (tyX7 k) := by decide +kernel
abbrev cX7_init : ByteArray := prog_1_method_1_code
def yX7_init : MethodName := ⟨RX7, "<init>", "()V"⟩
abbrev cX7_type : ByteArray := prog_1_method_2_code
def yX7_type : MethodName := ⟨RX7, "type", "(C)I"⟩
abbrev cX7_clearText : ByteArray := prog_1_method_3_code
def yX7_clearText : MethodName := ⟨RX7, "clearText", "()I"⟩
abbrev cX7_addBox : ByteArray := prog_1_method_4_code
def yX7_addBox : MethodName := ⟨RX7, "addBox", "()I"⟩
abbrev cX7_addProp : ByteArray := prog_1_method_5_code
def yX7_addProp : MethodName := ⟨RX7, "addProp", "(I)I"⟩
abbrev cX7_addClue : ByteArray := prog_1_method_6_code
def yX7_addClue : MethodName := ⟨RX7, "addClue", "(III)I"⟩
abbrev cX7_setExit : ByteArray := prog_1_method_7_code
def yX7_setExit : MethodName := ⟨RX7, "setExit", "(I)I"⟩
abbrev cX7_setLimits : ByteArray := prog_1_method_8_code
def yX7_setLimits : MethodName := ⟨RX7, "setLimits", "(II)I"⟩
abbrev cX7_addPaint : ByteArray := prog_1_method_9_code
def yX7_addPaint : MethodName := ⟨RX7, "addPaint", "(I)I"⟩
abbrev cX7_book : ByteArray := prog_1_method_10_code
def yX7_book : MethodName := ⟨RX7, "book", "(II)I"⟩
abbrev cX7_cancel : ByteArray := prog_1_method_11_code
def yX7_cancel : MethodName := ⟨RX7, "cancel", "(I)I"⟩
abbrev cX7_startGame : ByteArray := prog_1_method_12_code
def yX7_startGame : MethodName := ⟨RX7, "startGame", "()I"⟩
abbrev cX7_take : ByteArray := prog_1_method_13_code
def yX7_take : MethodName := ⟨RX7, "take", "(I)I"⟩
abbrev cX7_lay : ByteArray := prog_1_method_14_code
def yX7_lay : MethodName := ⟨RX7, "lay", "(II)I"⟩
abbrev cX7_open : ByteArray := prog_1_method_15_code
def yX7_open : MethodName := ⟨RX7, "open", "(II)I"⟩
abbrev cX7_read : ByteArray := prog_1_method_16_code
def yX7_read : MethodName := ⟨RX7, "read", "(I)I"⟩
abbrev cX7_rest : ByteArray := prog_1_method_17_code
def yX7_rest : MethodName := ⟨RX7, "rest", "(I)I"⟩
abbrev cX7_nudge : ByteArray := prog_1_method_18_code
def yX7_nudge : MethodName := ⟨RX7, "nudge", "()I"⟩
abbrev cX7_giveUp : ByteArray := prog_1_method_19_code
def yX7_giveUp : MethodName := ⟨RX7, "giveUp", "()I"⟩
abbrev cX7_idle : ByteArray := prog_1_method_20_code
def yX7_idle : MethodName := ⟨RX7, "idle", "(I)I"⟩
abbrev cX7_putHome : ByteArray := prog_1_method_21_code
def yX7_putHome : MethodName := ⟨RX7, "putHome", "(I)I"⟩
abbrev cX7_close : ByteArray := prog_1_method_22_code
def yX7_close : MethodName := ⟨RX7, "close", "(I)I"⟩
abbrev cX7_writeOver : ByteArray := prog_1_method_23_code
def yX7_writeOver : MethodName := ⟨RX7, "writeOver", "(I)I"⟩
abbrev cX7_reset : ByteArray := prog_1_method_24_code
def yX7_reset : MethodName := ⟨RX7, "reset", "()I"⟩
abbrev cX7_keep : ByteArray := prog_1_method_25_code
def yX7_keep : MethodName := ⟨RX7, "keep", "(I)I"⟩
abbrev cX7_restore : ByteArray := prog_1_method_26_code
def yX7_restore : MethodName := ⟨RX7, "restore", "(I)I"⟩
abbrev cX7_box : ByteArray := prog_1_method_27_code
def yX7_box : MethodName := ⟨RX7, "box", "(II)I"⟩
abbrev cX7_prop : ByteArray := prog_1_method_28_code
def yX7_prop : MethodName := ⟨RX7, "prop", "(II)I"⟩
abbrev cX7_clue : ByteArray := prog_1_method_29_code
def yX7_clue : MethodName := ⟨RX7, "clue", "(II)I"⟩
abbrev cX7_game : ByteArray := prog_1_method_30_code
def yX7_game : MethodName := ⟨RX7, "game", "(I)I"⟩
abbrev cX7_group : ByteArray := prog_1_method_31_code
def yX7_group : MethodName := ⟨RX7, "group", "(II)I"⟩
abbrev cX7_result : ByteArray := prog_1_method_32_code
def yX7_result : MethodName := ⟨RX7, "result", "(II)I"⟩
abbrev cX7_nextStep : ByteArray := prog_1_method_33_code
def yX7_nextStep : MethodName := ⟨RX7, "nextStep", "()I"⟩
abbrev cX7_plan : ByteArray := prog_1_method_34_code
def yX7_plan : MethodName := ⟨RX7, "plan", "(I)I"⟩
abbrev cX7_differences : ByteArray := prog_1_method_35_code
def yX7_differences : MethodName := ⟨RX7, "differences", "(I)I"⟩
abbrev cX7_logAt : ByteArray := prog_1_method_36_code
def yX7_logAt : MethodName := ⟨RX7, "logAt", "(I)I"⟩
abbrev cX7_count : ByteArray := prog_1_method_37_code
def yX7_count : MethodName := ⟨RX7, "count", "(I)I"⟩
abbrev cX7_slotState : ByteArray := prog_1_method_38_code
def yX7_slotState : MethodName := ⟨RX7, "slotState", "(I)LResetRooms$State;"⟩
abbrev cX7_isSlot : ByteArray := prog_1_method_39_code
def yX7_isSlot : MethodName := ⟨RX7, "isSlot", "(I)Z"⟩
abbrev cX7_isGroupSize : ByteArray := prog_1_method_40_code
def yX7_isGroupSize : MethodName := ⟨RX7, "isGroupSize", "(I)Z"⟩
abbrev cX7_asNumber : ByteArray := prog_1_method_41_code
def yX7_asNumber : MethodName := ⟨RX7, "asNumber", "(Z)I"⟩
abbrev cX7_actMinutes : ByteArray := prog_1_method_42_code
def yX7_actMinutes : MethodName := ⟨RX7, "actMinutes", "(II)I"⟩
abbrev cX7_toldStep : ByteArray := prog_1_method_43_code
def yX7_toldStep : MethodName := ⟨RX7, "toldStep", "(I)I"⟩
abbrev cX7_stepKind : ByteArray := prog_1_method_44_code
def yX7_stepKind : MethodName := ⟨RX7, "stepKind", "(I)I"⟩
abbrev cX7_at : ByteArray := prog_1_method_45_code
def yX7_at : MethodName := ⟨RX7, "at", "([II)I"⟩
abbrev cX7_put : ByteArray := prog_1_method_46_code
def yX7_put : MethodName := ⟨RX7, "put", "([III)V"⟩
abbrev cX7_copyRow : ByteArray := prog_1_method_47_code
def yX7_copyRow : MethodName := ⟨RX7, "copyRow", "([I[I)V"⟩
def RX8 : String := "ResetRoomsModel"
def TX8 : u_T := fun k => match k with
  | 0 => ("ResetRoomsModel", "row", "[I", true)
  | 1 => ("ResetRoomsModel", "aside", "[I", true)
  | 2 => ("ResetRoomsModel", "slots", "[I", true)
  | 3 => ("ResetRoomsModel", "isKept", "[Z", true)
  | 4 => ("ResetRoomsModel", "typed", "I", false)
  | 5 => ("ResetRoomsModel", "text", "[C", true)
  | 6 => ("ResetRoomsModel", "at", "I", false)
  | 7 => ("ResetRoomsModel", "fails", "Z", false)
  | 8 => ("ResetRoomsModel", "readOuter", "I", false)
  | 9 => ("ResetRoomsModel", "readLock", "I", false)
  | 10 => ("ResetRoomsModel", "readArgument", "I", false)
  | 11 => ("ResetRoomsModel", "toldFor", "I", false)
  | 12 => ("ResetRoomsModel", "spelt", "[I", true)
  | _ => ("ResetRoomsModel", "length", "I", false)
def tyX8 : Nat → FieldType := fun k => match k with
  | 0 => .array .int
  | 1 => .array .int
  | 2 => .array .int
  | 3 => .array .boolean
  | 4 => .int
  | 5 => .array .char
  | 6 => .int
  | 7 => .boolean
  | 8 => .int
  | 9 => .int
  | 10 => .int
  | 11 => .int
  | 12 => .array .int
  | _ => .int
theorem nmX8 : ∀ a, a < 14 → ∀ b, b < 14 → a ≠ b → (TX8 a).2.1 ≠ (TX8 b).2.1 := by decide +kernel
theorem tyX8_ok : ∀ k, k < 14 → parseFieldDescriptor (TX8 k).2.2.1 = some (tyX8 k) := by decide +kernel
abbrev cX8_init : ByteArray := prog_10_method_1_code
def yX8_init : MethodName := ⟨RX8, "<init>", "()V"⟩
abbrev cX8_in : ByteArray := prog_10_method_2_code
def yX8_in : MethodName := ⟨RX8, "in", "(III)Z"⟩
abbrev cX8_keep : ByteArray := prog_10_method_3_code
def yX8_keep : MethodName := ⟨RX8, "keep", "(I)I"⟩
abbrev cX8_restore : ByteArray := prog_10_method_4_code
def yX8_restore : MethodName := ⟨RX8, "restore", "(I)I"⟩
abbrev cX8_plays : ByteArray := prog_10_method_5_code
def yX8_plays : MethodName := ⟨RX8, "plays", "()Z"⟩
abbrev cX8_noBox : ByteArray := prog_10_method_6_code
def yX8_noBox : MethodName := ⟨RX8, "noBox", "(I)Z"⟩
abbrev cX8_noProp : ByteArray := prog_10_method_7_code
def yX8_noProp : MethodName := ⟨RX8, "noProp", "(I)Z"⟩
abbrev cX8_noClue : ByteArray := prog_10_method_8_code
def yX8_noClue : MethodName := ⟨RX8, "noClue", "(I)Z"⟩
abbrev cX8_isOpen : ByteArray := prog_10_method_9_code
def yX8_isOpen : MethodName := ⟨RX8, "isOpen", "(I)Z"⟩
abbrev cX8_closedFrom : ByteArray := prog_10_method_10_code
def yX8_closedFrom : MethodName := ⟨RX8, "closedFrom", "(I)I"⟩
abbrev cX8_closedAround : ByteArray := prog_10_method_11_code
def yX8_closedAround : MethodName := ⟨RX8, "closedAround", "(I)I"⟩
abbrev cX8_boxAtHand : ByteArray := prog_10_method_12_code
def yX8_boxAtHand : MethodName := ⟨RX8, "boxAtHand", "(I)Z"⟩
abbrev cX8_isHeld : ByteArray := prog_10_method_13_code
def yX8_isHeld : MethodName := ⟨RX8, "isHeld", "(I)Z"⟩
abbrev cX8_propAtHand : ByteArray := prog_10_method_14_code
def yX8_propAtHand : MethodName := ⟨RX8, "propAtHand", "(I)Z"⟩
abbrev cX8_clueAtHand : ByteArray := prog_10_method_15_code
def yX8_clueAtHand : MethodName := ⟨RX8, "clueAtHand", "(I)Z"⟩
abbrev cX8_held : ByteArray := prog_10_method_16_code
def yX8_held : MethodName := ⟨RX8, "held", "()I"⟩
abbrev cX8_digitOf : ByteArray := prog_10_method_17_code
def yX8_digitOf : MethodName := ⟨RX8, "digitOf", "(I)I"⟩
abbrev cX8_pass : ByteArray := prog_10_method_18_code
def yX8_pass : MethodName := ⟨RX8, "pass", "(I)V"⟩
abbrev cX8_type : ByteArray := prog_10_method_19_code
def yX8_type : MethodName := ⟨RX8, "type", "(C)I"⟩
abbrev cX8_clearText : ByteArray := prog_10_method_20_code
def yX8_clearText : MethodName := ⟨RX8, "clearText", "()I"⟩
abbrev cX8_lockLetter : ByteArray := prog_10_method_21_code
def yX8_lockLetter : MethodName := ⟨RX8, "lockLetter", "(II)I"⟩
abbrev cX8_sees : ByteArray := prog_10_method_22_code
def yX8_sees : MethodName := ⟨RX8, "sees", "()I"⟩
abbrev cX8_takes : ByteArray := prog_10_method_23_code
def yX8_takes : MethodName := ⟨RX8, "takes", "(I)V"⟩
abbrev cX8_seesDigit : ByteArray := prog_10_method_24_code
def yX8_seesDigit : MethodName := ⟨RX8, "seesDigit", "()Z"⟩
abbrev cX8_number : ByteArray := prog_10_method_25_code
def yX8_number : MethodName := ⟨RX8, "number", "(II)I"⟩
abbrev cX8_readsLock : ByteArray := prog_10_method_26_code
def yX8_readsLock : MethodName := ⟨RX8, "readsLock", "()V"⟩
abbrev cX8_faultOfText : ByteArray := prog_10_method_27_code
def yX8_faultOfText : MethodName := ⟨RX8, "faultOfText", "()I"⟩
abbrev cX8_addBox : ByteArray := prog_10_method_28_code
def yX8_addBox : MethodName := ⟨RX8, "addBox", "()I"⟩
abbrev cX8_addProp : ByteArray := prog_10_method_29_code
def yX8_addProp : MethodName := ⟨RX8, "addProp", "(I)I"⟩
abbrev cX8_addClue : ByteArray := prog_10_method_30_code
def yX8_addClue : MethodName := ⟨RX8, "addClue", "(III)I"⟩
abbrev cX8_setExit : ByteArray := prog_10_method_31_code
def yX8_setExit : MethodName := ⟨RX8, "setExit", "(I)I"⟩
abbrev cX8_setLimits : ByteArray := prog_10_method_32_code
def yX8_setLimits : MethodName := ⟨RX8, "setLimits", "(II)I"⟩
abbrev cX8_addPaint : ByteArray := prog_10_method_33_code
def yX8_addPaint : MethodName := ⟨RX8, "addPaint", "(I)I"⟩
abbrev cX8_book : ByteArray := prog_10_method_34_code
def yX8_book : MethodName := ⟨RX8, "book", "(II)I"⟩
abbrev cX8_noGroup : ByteArray := prog_10_method_35_code
def yX8_noGroup : MethodName := ⟨RX8, "noGroup", "(I)Z"⟩
abbrev cX8_removeGroup : ByteArray := prog_10_method_36_code
def yX8_removeGroup : MethodName := ⟨RX8, "removeGroup", "(I)V"⟩
abbrev cX8_cancel : ByteArray := prog_10_method_37_code
def yX8_cancel : MethodName := ⟨RX8, "cancel", "(I)I"⟩
abbrev cX8_notAtHome : ByteArray := prog_10_method_38_code
def yX8_notAtHome : MethodName := ⟨RX8, "notAtHome", "()I"⟩
abbrev cX8_openOnes : ByteArray := prog_10_method_39_code
def yX8_openOnes : MethodName := ⟨RX8, "openOnes", "()I"⟩
abbrev cX8_startGame : ByteArray := prog_10_method_40_code
def yX8_startGame : MethodName := ⟨RX8, "startGame", "()I"⟩
abbrev cX8_note : ByteArray := prog_10_method_41_code
def yX8_note : MethodName := ⟨RX8, "note", "(III)V"⟩
abbrev cX8_end : ByteArray := prog_10_method_42_code
def yX8_end : MethodName := ⟨RX8, "end", "(I)V"⟩
abbrev cX8_minutesLeft : ByteArray := prog_10_method_43_code
def yX8_minutesLeft : MethodName := ⟨RX8, "minutesLeft", "()I"⟩
abbrev cX8_lessHalf : ByteArray := prog_10_method_44_code
def yX8_lessHalf : MethodName := ⟨RX8, "lessHalf", "(I)I"⟩
abbrev cX8_readMinutes : ByteArray := prog_10_method_45_code
def yX8_readMinutes : MethodName := ⟨RX8, "readMinutes", "(I)I"⟩
abbrev cX8_isOver : ByteArray := prog_10_method_46_code
def yX8_isOver : MethodName := ⟨RX8, "isOver", "(I)Z"⟩
abbrev cX8_take : ByteArray := prog_10_method_47_code
def yX8_take : MethodName := ⟨RX8, "take", "(I)I"⟩
abbrev cX8_lay : ByteArray := prog_10_method_48_code
def yX8_lay : MethodName := ⟨RX8, "lay", "(II)I"⟩
abbrev cX8_lets : ByteArray := prog_10_method_49_code
def yX8_lets : MethodName := ⟨RX8, "lets", "(I)Z"⟩
abbrev cX8_open : ByteArray := prog_10_method_50_code
def yX8_open : MethodName := ⟨RX8, "open", "(II)I"⟩
abbrev cX8_learn : ByteArray := prog_10_method_51_code
def yX8_learn : MethodName := ⟨RX8, "learn", "(I)V"⟩
abbrev cX8_read : ByteArray := prog_10_method_52_code
def yX8_read : MethodName := ⟨RX8, "read", "(I)I"⟩
abbrev cX8_rest : ByteArray := prog_10_method_53_code
def yX8_rest : MethodName := ⟨RX8, "rest", "(I)I"⟩
abbrev cX8_clueFor : ByteArray := prog_10_method_54_code
def yX8_clueFor : MethodName := ⟨RX8, "clueFor", "(IIZ)I"⟩
abbrev cX8_lowestUnknown : ByteArray := prog_10_method_55_code
def yX8_lowestUnknown : MethodName := ⟨RX8, "lowestUnknown", "(I)I"⟩
abbrev cX8_lowestHeld : ByteArray := prog_10_method_56_code
def yX8_lowestHeld : MethodName := ⟨RX8, "lowestHeld", "()I"⟩
abbrev cX8_stepToHold : ByteArray := prog_10_method_57_code
def yX8_stepToHold : MethodName := ⟨RX8, "stepToHold", "(I)I"⟩
abbrev cX8_stepFor : ByteArray := prog_10_method_58_code
def yX8_stepFor : MethodName := ⟨RX8, "stepFor", "(I)I"⟩
abbrev cX8_step : ByteArray := prog_10_method_59_code
def yX8_step : MethodName := ⟨RX8, "step", "()I"⟩
abbrev cX8_nextStep : ByteArray := prog_10_method_60_code
def yX8_nextStep : MethodName := ⟨RX8, "nextStep", "()I"⟩
abbrev cX8_nudge : ByteArray := prog_10_method_61_code
def yX8_nudge : MethodName := ⟨RX8, "nudge", "()I"⟩
abbrev cX8_giveUp : ByteArray := prog_10_method_62_code
def yX8_giveUp : MethodName := ⟨RX8, "giveUp", "()I"⟩
abbrev cX8_planned : ByteArray := prog_10_method_63_code
def yX8_planned : MethodName := ⟨RX8, "planned", "(I)I"⟩
abbrev cX8_plan : ByteArray := prog_10_method_64_code
def yX8_plan : MethodName := ⟨RX8, "plan", "(I)I"⟩
abbrev cX8_idle : ByteArray := prog_10_method_65_code
def yX8_idle : MethodName := ⟨RX8, "idle", "(I)I"⟩
abbrev cX8_putHome : ByteArray := prog_10_method_66_code
def yX8_putHome : MethodName := ⟨RX8, "putHome", "(I)I"⟩
abbrev cX8_close : ByteArray := prog_10_method_67_code
def yX8_close : MethodName := ⟨RX8, "close", "(I)I"⟩
abbrev cX8_writeOver : ByteArray := prog_10_method_68_code
def yX8_writeOver : MethodName := ⟨RX8, "writeOver", "(I)I"⟩
abbrev cX8_written : ByteArray := prog_10_method_69_code
def yX8_written : MethodName := ⟨RX8, "written", "(ZZ)I"⟩
abbrev cX8_resetMinutes : ByteArray := prog_10_method_70_code
def yX8_resetMinutes : MethodName := ⟨RX8, "resetMinutes", "()I"⟩
abbrev cX8_reset : ByteArray := prog_10_method_71_code
def yX8_reset : MethodName := ⟨RX8, "reset", "()I"⟩
abbrev cX8_propsIn : ByteArray := prog_10_method_72_code
def yX8_propsIn : MethodName := ⟨RX8, "propsIn", "(I)I"⟩
abbrev cX8_boxesIn : ByteArray := prog_10_method_73_code
def yX8_boxesIn : MethodName := ⟨RX8, "boxesIn", "(I)I"⟩
abbrev cX8_box : ByteArray := prog_10_method_74_code
def yX8_box : MethodName := ⟨RX8, "box", "(II)I"⟩
abbrev cX8_cluesOn : ByteArray := prog_10_method_75_code
def yX8_cluesOn : MethodName := ⟨RX8, "cluesOn", "(I)I"⟩
abbrev cX8_locksWith : ByteArray := prog_10_method_76_code
def yX8_locksWith : MethodName := ⟨RX8, "locksWith", "(I)I"⟩
abbrev cX8_prop : ByteArray := prog_10_method_77_code
def yX8_prop : MethodName := ⟨RX8, "prop", "(II)I"⟩
abbrev cX8_clue : ByteArray := prog_10_method_78_code
def yX8_clue : MethodName := ⟨RX8, "clue", "(II)I"⟩
abbrev cX8_heldSet : ByteArray := prog_10_method_79_code
def yX8_heldSet : MethodName := ⟨RX8, "heldSet", "()I"⟩
abbrev cX8_game : ByteArray := prog_10_method_80_code
def yX8_game : MethodName := ⟨RX8, "game", "(I)I"⟩
abbrev cX8_startOf : ByteArray := prog_10_method_81_code
def yX8_startOf : MethodName := ⟨RX8, "startOf", "(I)I"⟩
abbrev cX8_group : ByteArray := prog_10_method_82_code
def yX8_group : MethodName := ⟨RX8, "group", "(II)I"⟩
abbrev cX8_result : ByteArray := prog_10_method_83_code
def yX8_result : MethodName := ⟨RX8, "result", "(II)I"⟩
abbrev cX8_faded : ByteArray := prog_10_method_84_code
def yX8_faded : MethodName := ⟨RX8, "faded", "()I"⟩
abbrev cX8_differences : ByteArray := prog_10_method_85_code
def yX8_differences : MethodName := ⟨RX8, "differences", "(I)I"⟩
abbrev cX8_wordLetter : ByteArray := prog_10_method_86_code
def yX8_wordLetter : MethodName := ⟨RX8, "wordLetter", "(II)I"⟩
abbrev cX8_lettersOf : ByteArray := prog_10_method_87_code
def yX8_lettersOf : MethodName := ⟨RX8, "lettersOf", "(I)I"⟩
abbrev cX8_argumentsOf : ByteArray := prog_10_method_88_code
def yX8_argumentsOf : MethodName := ⟨RX8, "argumentsOf", "(I)I"⟩
abbrev cX8_put : ByteArray := prog_10_method_89_code
def yX8_put : MethodName := ⟨RX8, "put", "(I)V"⟩
abbrev cX8_putNumber : ByteArray := prog_10_method_90_code
def yX8_putNumber : MethodName := ⟨RX8, "putNumber", "(I)V"⟩
abbrev cX8_spell : ByteArray := prog_10_method_91_code
def yX8_spell : MethodName := ⟨RX8, "spell", "(I)V"⟩
abbrev cX8_logAt : ByteArray := prog_10_method_92_code
def yX8_logAt : MethodName := ⟨RX8, "logAt", "(I)I"⟩
abbrev cX8_logLength : ByteArray := prog_10_method_93_code
def yX8_logLength : MethodName := ⟨RX8, "logLength", "()I"⟩
abbrev cX8_behind : ByteArray := prog_10_method_94_code
def yX8_behind : MethodName := ⟨RX8, "behind", "()I"⟩
abbrev cX8_wins : ByteArray := prog_10_method_95_code
def yX8_wins : MethodName := ⟨RX8, "wins", "()I"⟩
abbrev cX8_count : ByteArray := prog_10_method_96_code
def yX8_count : MethodName := ⟨RX8, "count", "(I)I"⟩
def RJ6 : String := "java/lang/Integer"
abbrev cJ6_bitCount_0f7a4 : ByteArray := prog_11_method_49_code
def yJ6_bitCount_0f7a4 : MethodName := ⟨RJ6, "bitCount", "(I)I"⟩
def RJ9 : String := "java/lang/Math"
abbrev cJ9_max_7cf53 : ByteArray := prog_12_method_65_code
def yJ9_max_7cf53 : MethodName := ⟨RJ9, "max", "(II)I"⟩
def RJ0 : String := "java/lang/String"
abbrev cJ0_length_8abf5 : ByteArray := prog_13_method_54_code
def yJ0_length_8abf5 : MethodName := ⟨RJ0, "length", "()I"⟩
abbrev cJ0_charAt_5068e : ByteArray := prog_13_method_56_code
def yJ0_charAt_5068e : MethodName := ⟨RJ0, "charAt", "(I)C"⟩
abbrev cJ0_coder_7d493 : ByteArray := prog_13_method_152_code
def yJ0_coder_7d493 : MethodName := ⟨RJ0, "coder", "()B"⟩
abbrev cJ0_isLatin1_aae02 : ByteArray := prog_13_method_154_code
def yJ0_isLatin1_aae02 : MethodName := ⟨RJ0, "isLatin1", "()Z"⟩
abbrev cJ0_checkIndex_df160 : ByteArray := prog_13_method_155_code
def yJ0_checkIndex_df160 : MethodName := ⟨RJ0, "checkIndex", "(II)V"⟩
def RJ1 : String := "java/lang/StringLatin1"
abbrev cJ1_charAt_3b067 : ByteArray := prog_14_method_2_code
def yJ1_charAt_3b067 : MethodName := ⟨RJ1, "charAt", "([BI)C"⟩
def RJ2 : String := "java/lang/StringUTF16"
abbrev cJ2_getChar_3b067 : ByteArray := prog_15_method_5_code
def yJ2_getChar_3b067 : MethodName := ⟨RJ2, "getChar", "([BI)C"⟩
abbrev cJ2_length_9d52b : ByteArray := prog_15_method_6_code
def yJ2_length_9d52b : MethodName := ⟨RJ2, "length", "([B)I"⟩
abbrev cJ2_charAt_3b067 : ByteArray := prog_15_method_83_code
def yJ2_charAt_3b067 : MethodName := ⟨RJ2, "charAt", "([BI)C"⟩
abbrev cJ2_checkIndex_2214a : ByteArray := prog_15_method_91_code
def yJ2_checkIndex_2214a : MethodName := ⟨RJ2, "checkIndex", "(I[B)V"⟩
def RJ3 : String := "jdk/internal/util/Preconditions"
abbrev cJ3_checkIndex_8e157 : ByteArray := prog_16_method_11_code
def yJ3_checkIndex_8e157 : MethodName := ⟨RJ3, "checkIndex", "(IILjava/util/function/BiFunction;)I"⟩
def RL : String := "ResetRoomsLaw"
abbrev cL_law : ByteArray := code
abbrev vwCl : List vw_C := [(RX0, TX0, 7), (RX1, TX1, 7), (RX2, TX2, 2), (RX3, TX3, 3), (RX4, TX4, 2), (RX5, TX5, 16), (RX6, TX6, 9), (RX7, TX7, 6), (RX8, TX8, 14)]
