theorem gX7_47 : GoodIn TB (va_wsS RX7 47 yX7_put (.code yX7_put cX7_put 3 none :: TB)) := gS q370 q141 q71 q142
theorem hsX7_put : yX7_put.cls ≠ "java/lang/invoke/MethodHandle" ∧ yX7_put.cls ≠ "java/lang/invoke/VarHandle" ∧ (parseMethodDescriptor yX7_put.desc).map (fun d => d.parameters.length) = some 3 := by decide +kernel
theorem gX7_54 : GoodIn TB (wsV RX7 54 RX0 yX0_findFault (.code yX0_findFault cX0_findFault 1 (some .int) :: TB)) := gV q379 q380 q381 q72 q382
theorem hdX0_findFault : yX0_findFault.cls = RX0 ∧ yX0_findFault.cls ≠ "java/lang/invoke/MethodHandle" ∧ yX0_findFault.cls ≠ "java/lang/invoke/VarHandle" ∧ (parseMethodDescriptor yX0_findFault.desc).map (fun d => d.parameters.length) = some 0 := by decide +kernel
theorem gX7_64 : GoodIn TB (wsV RX7 64 RX5 yX5_hasBox (.code yX5_hasBox cX5_hasBox 2 (some .boolean) :: TB)) := gV q459 q460 q461 q74 q462
theorem hdX5_hasBox : yX5_hasBox.cls = RX5 ∧ yX5_hasBox.cls ≠ "java/lang/invoke/MethodHandle" ∧ yX5_hasBox.cls ≠ "java/lang/invoke/VarHandle" ∧ (parseMethodDescriptor yX5_hasBox.desc).map (fun d => d.parameters.length) = some 1 := by decide +kernel
theorem gX7_71 : GoodIn TB (wsV RX7 71 RX5 yX5_hasProp (.code yX5_hasProp cX5_hasProp 2 (some .boolean) :: TB)) := gV q463 q464 q465 q74 q466
theorem hdX5_hasProp : yX5_hasProp.cls = RX5 ∧ yX5_hasProp.cls ≠ "java/lang/invoke/MethodHandle" ∧ yX5_hasProp.cls ≠ "java/lang/invoke/VarHandle" ∧ (parseMethodDescriptor yX5_hasProp.desc).map (fun d => d.parameters.length) = some 1 := by decide +kernel
theorem gX7_87 : GoodIn TB (wsV RX7 87 RX5 yX5_appendBox (.code yX5_appendBox cX5_appendBox 5 (some .int) :: TB)) := gV q467 q468 q469 q74 q470
theorem hdX5_appendBox : yX5_appendBox.cls = RX5 ∧ yX5_appendBox.cls ≠ "java/lang/invoke/MethodHandle" ∧ yX5_appendBox.cls ≠ "java/lang/invoke/VarHandle" ∧ (parseMethodDescriptor yX5_appendBox.desc).map (fun d => d.parameters.length) = some 3 := by decide +kernel
theorem gX7_94 : GoodIn TB (wsV RX7 94 RX5 yX5_appendProp (.code yX5_appendProp cX5_appendProp 3 (some .int) :: TB)) := gV q476 q477 q478 q74 q479
theorem hdX5_appendProp : yX5_appendProp.cls = RX5 ∧ yX5_appendProp.cls ≠ "java/lang/invoke/MethodHandle" ∧ yX5_appendProp.cls ≠ "java/lang/invoke/VarHandle" ∧ (parseMethodDescriptor yX5_appendProp.desc).map (fun d => d.parameters.length) = some 1 := by decide +kernel
theorem gX7_98 : GoodIn TB (wsV RX7 98 RX5 yX5_hasLock (.code yX5_hasLock cX5_hasLock 3 (some .boolean) :: TB)) := gV q484 q485 q486 q74 q487
theorem hdX5_hasLock : yX5_hasLock.cls = RX5 ∧ yX5_hasLock.cls ≠ "java/lang/invoke/MethodHandle" ∧ yX5_hasLock.cls ≠ "java/lang/invoke/VarHandle" ∧ (parseMethodDescriptor yX5_hasLock.desc).map (fun d => d.parameters.length) = some 2 := by decide +kernel
theorem gX7_105 : GoodIn TB (wsV RX7 105 RX5 yX5_appendClue (.code yX5_appendClue cX5_appendClue 5 (some .int) :: TB)) := gV q489 q490 q491 q74 q492
theorem hdX5_appendClue : yX5_appendClue.cls = RX5 ∧ yX5_appendClue.cls ≠ "java/lang/invoke/MethodHandle" ∧ yX5_appendClue.cls ≠ "java/lang/invoke/VarHandle" ∧ (parseMethodDescriptor yX5_appendClue.desc).map (fun d => d.parameters.length) = some 3 := by decide +kernel
theorem gX7_124 : GoodIn TB (va_wsS RX7 124 yX7_isGroupSize (.code yX7_isGroupSize cX7_isGroupSize 1 (some .boolean) :: TB)) := gS q509 q510 q71 q511
theorem hsX7_isGroupSize : yX7_isGroupSize.cls ≠ "java/lang/invoke/MethodHandle" ∧ yX7_isGroupSize.cls ≠ "java/lang/invoke/VarHandle" ∧ (parseMethodDescriptor yX7_isGroupSize.desc).map (fun d => d.parameters.length) = some 1 := by decide +kernel
theorem gX7_136 : GoodIn TB (va_wsS RX7 136 yX7_at (.code yX7_at cX7_at 2 (some .int) :: TB)) := gS q513 q396 q71 q397
theorem hsX7_at : yX7_at.cls ≠ "java/lang/invoke/MethodHandle" ∧ yX7_at.cls ≠ "java/lang/invoke/VarHandle" ∧ (parseMethodDescriptor yX7_at.desc).map (fun d => d.parameters.length) = some 2 := by decide +kernel
theorem gX7_140 : GoodIn TB (wsV RX7 140 RX3 yX3_append (.code yX3_append cX3_append 3 none :: TB)) := gV q514 q515 q516 q75 q517
theorem hdX3_append : yX3_append.cls = RX3 ∧ yX3_append.cls ≠ "java/lang/invoke/MethodHandle" ∧ yX3_append.cls ≠ "java/lang/invoke/VarHandle" ∧ (parseMethodDescriptor yX3_append.desc).map (fun d => d.parameters.length) = some 2 := by decide +kernel
theorem gX7_144 : GoodIn TB (wsV RX7 144 RX3 yX3_hasGroup (.code yX3_hasGroup cX3_hasGroup 2 (some .boolean) :: TB)) := gV q523 q524 q525 q75 q526
theorem hdX3_hasGroup : yX3_hasGroup.cls = RX3 ∧ yX3_hasGroup.cls ≠ "java/lang/invoke/MethodHandle" ∧ yX3_hasGroup.cls ≠ "java/lang/invoke/VarHandle" ∧ (parseMethodDescriptor yX3_hasGroup.desc).map (fun d => d.parameters.length) = some 1 := by decide +kernel
theorem gX7_147 : GoodIn TB (wsV RX7 147 RX3 yX3_remove (.code yX3_remove cX3_remove 3 none :: TB)) := gV q527 q528 q529 q75 q530
theorem hdX3_remove : yX3_remove.cls = RX3 ∧ yX3_remove.cls ≠ "java/lang/invoke/MethodHandle" ∧ yX3_remove.cls ≠ "java/lang/invoke/VarHandle" ∧ (parseMethodDescriptor yX3_remove.desc).map (fun d => d.parameters.length) = some 1 := by decide +kernel
theorem gX7_151 : GoodIn TB (wsV RX7 151 RX5 yX5_isOpen (.code yX5_isOpen cX5_isOpen 2 (some .boolean) :: TB)) := gV q536 q537 q538 q74 q539
theorem hdX5_isOpen : yX5_isOpen.cls = RX5 ∧ yX5_isOpen.cls ≠ "java/lang/invoke/MethodHandle" ∧ yX5_isOpen.cls ≠ "java/lang/invoke/VarHandle" ∧ (parseMethodDescriptor yX5_isOpen.desc).map (fun d => d.parameters.length) = some 1 := by decide +kernel
theorem gX7_163 : GoodIn TB (wsV RX7 163 RX6 yX6_beginGame (.code yX6_beginGame cX6_beginGame 1 (some .int) :: TB)) := gV q540 q541 q542 q73 q543
theorem hdX6_beginGame : yX6_beginGame.cls = RX6 ∧ yX6_beginGame.cls ≠ "java/lang/invoke/MethodHandle" ∧ yX6_beginGame.cls ≠ "java/lang/invoke/VarHandle" ∧ (parseMethodDescriptor yX6_beginGame.desc).map (fun d => d.parameters.length) = some 0 := by decide +kernel
theorem gX7_166 : GoodIn TB (wsV RX7 166 RX5 yX5_isHeld (.code yX5_isHeld cX5_isHeld 2 (some .boolean) :: TB)) := gV q579 q580 q581 q74 q582
theorem hdX5_isHeld : yX5_isHeld.cls = RX5 ∧ yX5_isHeld.cls ≠ "java/lang/invoke/MethodHandle" ∧ yX5_isHeld.cls ≠ "java/lang/invoke/VarHandle" ∧ (parseMethodDescriptor yX5_isHeld.desc).map (fun d => d.parameters.length) = some 1 := by decide +kernel
theorem gX7_169 : GoodIn TB (wsV RX7 169 RX5 yX5_propAtHand (.code yX5_propAtHand cX5_propAtHand 2 (some .boolean) :: TB)) := gV q583 q584 q585 q74 q586
theorem hdX5_propAtHand : yX5_propAtHand.cls = RX5 ∧ yX5_propAtHand.cls ≠ "java/lang/invoke/MethodHandle" ∧ yX5_propAtHand.cls ≠ "java/lang/invoke/VarHandle" ∧ (parseMethodDescriptor yX5_propAtHand.desc).map (fun d => d.parameters.length) = some 1 := by decide +kernel
theorem gX7_172 : GoodIn TB (wsV RX7 172 RX5 yX5_heldProps (.code yX5_heldProps cX5_heldProps 1 (some .int) :: TB)) := gV q587 q588 q589 q74 q590
theorem hdX5_heldProps : yX5_heldProps.cls = RX5 ∧ yX5_heldProps.cls ≠ "java/lang/invoke/MethodHandle" ∧ yX5_heldProps.cls ≠ "java/lang/invoke/VarHandle" ∧ (parseMethodDescriptor yX5_heldProps.desc).map (fun d => d.parameters.length) = some 0 := by decide +kernel
theorem gX7_178 : GoodIn TB (va_wsS RX7 178 yX7_actMinutes (.code yX7_actMinutes cX7_actMinutes 2 (some .int) :: TB)) := gS q595 q596 q71 q597
theorem hsX7_actMinutes : yX7_actMinutes.cls ≠ "java/lang/invoke/MethodHandle" ∧ yX7_actMinutes.cls ≠ "java/lang/invoke/VarHandle" ∧ (parseMethodDescriptor yX7_actMinutes.desc).map (fun d => d.parameters.length) = some 2 := by decide +kernel
theorem gX7_182 : GoodIn TB (wsV RX7 182 RX6 yX6_hasTimeFor (.code yX6_hasTimeFor cX6_hasTimeFor 2 (some .boolean) :: TB)) := gV q599 q600 q601 q73 q602
theorem hdX6_hasTimeFor : yX6_hasTimeFor.cls = RX6 ∧ yX6_hasTimeFor.cls ≠ "java/lang/invoke/MethodHandle" ∧ yX6_hasTimeFor.cls ≠ "java/lang/invoke/VarHandle" ∧ (parseMethodDescriptor yX6_hasTimeFor.desc).map (fun d => d.parameters.length) = some 1 := by decide +kernel
theorem gX7_185 : GoodIn TB (wsV RX7 185 RX6 yX6_runOutOfTime (.code yX6_runOutOfTime cX6_runOutOfTime 1 (some .int) :: TB)) := gV q607 q608 q609 q73 q610
theorem hdX6_runOutOfTime : yX6_runOutOfTime.cls = RX6 ∧ yX6_runOutOfTime.cls ≠ "java/lang/invoke/MethodHandle" ∧ yX6_runOutOfTime.cls ≠ "java/lang/invoke/VarHandle" ∧ (parseMethodDescriptor yX6_runOutOfTime.desc).map (fun d => d.parameters.length) = some 0 := by decide +kernel
theorem gX7_190 : GoodIn TB (wsV RX7 190 RX6 yX6_note (.code yX6_note cX6_note 4 none :: TB)) := gV q658 q659 q660 q73 q661
theorem hdX6_note : yX6_note.cls = RX6 ∧ yX6_note.cls ≠ "java/lang/invoke/MethodHandle" ∧ yX6_note.cls ≠ "java/lang/invoke/VarHandle" ∧ (parseMethodDescriptor yX6_note.desc).map (fun d => d.parameters.length) = some 3 := by decide +kernel
theorem gX7_197 : GoodIn TB (wsV RX7 197 RX6 yX6_pass (.code yX6_pass cX6_pass 3 none :: TB)) := gV q662 q550 q551 q73 q552
theorem hdX6_pass : yX6_pass.cls = RX6 ∧ yX6_pass.cls ≠ "java/lang/invoke/MethodHandle" ∧ yX6_pass.cls ≠ "java/lang/invoke/VarHandle" ∧ (parseMethodDescriptor yX6_pass.desc).map (fun d => d.parameters.length) = some 1 := by decide +kernel
theorem gX7_200 : GoodIn TB (wsV RX7 200 RX5 yX5_outermostClosed (.code yX5_outermostClosed cX5_outermostClosed 5 (some .int) :: TB)) := gV q667 q562 q563 q74 q564
theorem hdX5_outermostClosed : yX5_outermostClosed.cls = RX5 ∧ yX5_outermostClosed.cls ≠ "java/lang/invoke/MethodHandle" ∧ yX5_outermostClosed.cls ≠ "java/lang/invoke/VarHandle" ∧ (parseMethodDescriptor yX5_outermostClosed.desc).map (fun d => d.parameters.length) = some 1 := by decide +kernel
theorem gX7_205 : GoodIn TB (wsV RX7 205 RX5 yX5_canBeOpened (.code yX5_canBeOpened cX5_canBeOpened 2 (some .boolean) :: TB)) := gV q673 q674 q675 q74 q676
theorem hdX5_canBeOpened : yX5_canBeOpened.cls = RX5 ∧ yX5_canBeOpened.cls ≠ "java/lang/invoke/MethodHandle" ∧ yX5_canBeOpened.cls ≠ "java/lang/invoke/VarHandle" ∧ (parseMethodDescriptor yX5_canBeOpened.desc).map (fun d => d.parameters.length) = some 1 := by decide +kernel
theorem gX7_218 : GoodIn TB (wsV RX7 218 RX6 yX6_endGame (.code yX6_endGame cX6_endGame 2 none :: TB)) := gV q683 q637 q638 q73 q639
theorem hdX6_endGame : yX6_endGame.cls = RX6 ∧ yX6_endGame.cls ≠ "java/lang/invoke/MethodHandle" ∧ yX6_endGame.cls ≠ "java/lang/invoke/VarHandle" ∧ (parseMethodDescriptor yX6_endGame.desc).map (fun d => d.parameters.length) = some 1 := by decide +kernel
theorem gX7_222 : GoodIn TB (wsV RX7 222 RX5 yX5_hasClue (.code yX5_hasClue cX5_hasClue 2 (some .boolean) :: TB)) := gV q688 q689 q690 q74 q691
theorem hdX5_hasClue : yX5_hasClue.cls = RX5 ∧ yX5_hasClue.cls ≠ "java/lang/invoke/MethodHandle" ∧ yX5_hasClue.cls ≠ "java/lang/invoke/VarHandle" ∧ (parseMethodDescriptor yX5_hasClue.desc).map (fun d => d.parameters.length) = some 1 := by decide +kernel
theorem gX7_225 : GoodIn TB (wsV RX7 225 RX5 yX5_clueAtHand (.code yX5_clueAtHand cX5_clueAtHand 2 (some .boolean) :: TB)) := gV q692 q558 q559 q74 q560
theorem hdX5_clueAtHand : yX5_clueAtHand.cls = RX5 ∧ yX5_clueAtHand.cls ≠ "java/lang/invoke/MethodHandle" ∧ yX5_clueAtHand.cls ≠ "java/lang/invoke/VarHandle" ∧ (parseMethodDescriptor yX5_clueAtHand.desc).map (fun d => d.parameters.length) = some 1 := by decide +kernel
theorem gX7_231 : GoodIn TB (wsV RX7 231 RX5 yX5_readingMinutes (.code yX5_readingMinutes cX5_readingMinutes 2 (some .int) :: TB)) := gV q693 q694 q695 q74 q696
theorem hdX5_readingMinutes : yX5_readingMinutes.cls = RX5 ∧ yX5_readingMinutes.cls ≠ "java/lang/invoke/MethodHandle" ∧ yX5_readingMinutes.cls ≠ "java/lang/invoke/VarHandle" ∧ (parseMethodDescriptor yX5_readingMinutes.desc).map (fun d => d.parameters.length) = some 1 := by decide +kernel
theorem gX7_236 : GoodIn TB (wsV RX7 236 RX5 yX5_learnFromClue (.code yX5_learnFromClue cX5_learnFromClue 2 none :: TB)) := gV q703 q704 q705 q74 q706
theorem hdX5_learnFromClue : yX5_learnFromClue.cls = RX5 ∧ yX5_learnFromClue.cls ≠ "java/lang/invoke/MethodHandle" ∧ yX5_learnFromClue.cls ≠ "java/lang/invoke/VarHandle" ∧ (parseMethodDescriptor yX5_learnFromClue.desc).map (fun d => d.parameters.length) = some 1 := by decide +kernel
theorem gX7_239 : GoodIn TB (wsV RX7 239 RX5 yX5_clueDigit (.code yX5_clueDigit cX5_clueDigit 3 (some .int) :: TB)) := gV q711 q712 q713 q74 q714
theorem hdX5_clueDigit : yX5_clueDigit.cls = RX5 ∧ yX5_clueDigit.cls ≠ "java/lang/invoke/MethodHandle" ∧ yX5_clueDigit.cls ≠ "java/lang/invoke/VarHandle" ∧ (parseMethodDescriptor yX5_clueDigit.desc).map (fun d => d.parameters.length) = some 1 := by decide +kernel
theorem gX7_244 : GoodIn TB (wsV RX7 244 RX6 yX6_minutesLeft (.code yX6_minutesLeft cX6_minutesLeft 1 (some .int) :: TB)) := gV q720 q604 q605 q73 q606
theorem hdX6_minutesLeft : yX6_minutesLeft.cls = RX6 ∧ yX6_minutesLeft.cls ≠ "java/lang/invoke/MethodHandle" ∧ yX6_minutesLeft.cls ≠ "java/lang/invoke/VarHandle" ∧ (parseMethodDescriptor yX6_minutesLeft.desc).map (fun d => d.parameters.length) = some 0 := by decide +kernel
theorem gX7_250 : GoodIn TB (wsV RX7 250 RX5 yX5_stepFor (.code yX5_stepFor cX5_stepFor 6 (some .int) :: TB)) := gV q725 q726 q727 q74 q728
theorem hdX5_stepFor : yX5_stepFor.cls = RX5 ∧ yX5_stepFor.cls ≠ "java/lang/invoke/MethodHandle" ∧ yX5_stepFor.cls ≠ "java/lang/invoke/VarHandle" ∧ (parseMethodDescriptor yX5_stepFor.desc).map (fun d => d.parameters.length) = some 1 := by decide +kernel
theorem gX7_255 : GoodIn TB (va_wsS RX7 255 yX7_toldStep (.code yX7_toldStep cX7_toldStep 1 (some .int) :: TB)) := gS q751 q752 q71 q753
theorem hsX7_toldStep : yX7_toldStep.cls ≠ "java/lang/invoke/MethodHandle" ∧ yX7_toldStep.cls ≠ "java/lang/invoke/VarHandle" ∧ (parseMethodDescriptor yX7_toldStep.desc).map (fun d => d.parameters.length) = some 1 := by decide +kernel
theorem gX7_258 : GoodIn TB (va_wsS RX7 258 yX7_stepKind (.code yX7_stepKind cX7_stepKind 1 (some .int) :: TB)) := gS q754 q755 q71 q756
theorem hsX7_stepKind : yX7_stepKind.cls ≠ "java/lang/invoke/MethodHandle" ∧ yX7_stepKind.cls ≠ "java/lang/invoke/VarHandle" ∧ (parseMethodDescriptor yX7_stepKind.desc).map (fun d => d.parameters.length) = some 1 := by decide +kernel
theorem gX7_261 : GoodIn TB (wsV RX7 261 RX5 yX5_learnDigit (.code yX5_learnDigit cX5_learnDigit 3 none :: TB)) := gV q757 q708 q709 q74 q710
theorem hdX5_learnDigit : yX5_learnDigit.cls = RX5 ∧ yX5_learnDigit.cls ≠ "java/lang/invoke/MethodHandle" ∧ yX5_learnDigit.cls ≠ "java/lang/invoke/VarHandle" ∧ (parseMethodDescriptor yX5_learnDigit.desc).map (fun d => d.parameters.length) = some 2 := by decide +kernel
theorem gX7_264 : GoodIn TB (wsV RX7 264 RX6 yX6_gameMinute (.code yX6_gameMinute cX6_gameMinute 1 (some .int) :: TB)) := gV q762 q612 q613 q73 q614
theorem hdX6_gameMinute : yX6_gameMinute.cls = RX6 ∧ yX6_gameMinute.cls ≠ "java/lang/invoke/MethodHandle" ∧ yX6_gameMinute.cls ≠ "java/lang/invoke/VarHandle" ∧ (parseMethodDescriptor yX6_gameMinute.desc).map (fun d => d.parameters.length) = some 0 := by decide +kernel
theorem gX7_275 : GoodIn TB (wsV RX7 275 RX5 yX5_openBoxes (.code yX5_openBoxes cX5_openBoxes 3 (some .int) :: TB)) := gV q776 q571 q572 q74 q573
theorem hdX5_openBoxes : yX5_openBoxes.cls = RX5 ∧ yX5_openBoxes.cls ≠ "java/lang/invoke/MethodHandle" ∧ yX5_openBoxes.cls ≠ "java/lang/invoke/VarHandle" ∧ (parseMethodDescriptor yX5_openBoxes.desc).map (fun d => d.parameters.length) = some 0 := by decide +kernel
theorem gX7_278 : GoodIn TB (wsV RX7 278 RX5 yX5_inkLack (.code yX5_inkLack cX5_inkLack 2 (some .int) :: TB)) := gV q781 q782 q783 q74 q784
theorem hdX5_inkLack : yX5_inkLack.cls = RX5 ∧ yX5_inkLack.cls ≠ "java/lang/invoke/MethodHandle" ∧ yX5_inkLack.cls ≠ "java/lang/invoke/VarHandle" ∧ (parseMethodDescriptor yX5_inkLack.desc).map (fun d => d.parameters.length) = some 1 := by decide +kernel
theorem gX7_281 : GoodIn TB (wsV RX7 281 RX6 yX6_refill (.code yX6_refill cX6_refill 2 none :: TB)) := gV q785 q786 q787 q73 q788
theorem hdX6_refill : yX6_refill.cls = RX6 ∧ yX6_refill.cls ≠ "java/lang/invoke/MethodHandle" ∧ yX6_refill.cls ≠ "java/lang/invoke/VarHandle" ∧ (parseMethodDescriptor yX6_refill.desc).map (fun d => d.parameters.length) = some 1 := by decide +kernel
theorem gX7_284 : GoodIn TB (wsV RX7 284 RX6 yX6_resetMinutes (.code yX6_resetMinutes cX6_resetMinutes 1 (some .int) :: TB)) := gV q795 q796 q797 q73 q798
theorem hdX6_resetMinutes : yX6_resetMinutes.cls = RX6 ∧ yX6_resetMinutes.cls ≠ "java/lang/invoke/MethodHandle" ∧ yX6_resetMinutes.cls ≠ "java/lang/invoke/VarHandle" ∧ (parseMethodDescriptor yX6_resetMinutes.desc).map (fun d => d.parameters.length) = some 0 := by decide +kernel
theorem gX7_287 : GoodIn TB (wsV RX7 287 RX6 yX6_bringToOrder (.code yX6_bringToOrder cX6_bringToOrder 3 none :: TB)) := gV q810 q811 q812 q73 q813
theorem hdX6_bringToOrder : yX6_bringToOrder.cls = RX6 ∧ yX6_bringToOrder.cls ≠ "java/lang/invoke/MethodHandle" ∧ yX6_bringToOrder.cls ≠ "java/lang/invoke/VarHandle" ∧ (parseMethodDescriptor yX6_bringToOrder.desc).map (fun d => d.parameters.length) = some 0 := by decide +kernel
theorem gX7_290 : GoodIn TB (va_wsS RX7 290 yX7_isSlot (.code yX7_isSlot cX7_isSlot 1 (some .boolean) :: TB)) := gS q827 q828 q71 q829
theorem hsX7_isSlot : yX7_isSlot.cls ≠ "java/lang/invoke/MethodHandle" ∧ yX7_isSlot.cls ≠ "java/lang/invoke/VarHandle" ∧ (parseMethodDescriptor yX7_isSlot.desc).map (fun d => d.parameters.length) = some 1 := by decide +kernel
theorem gX7_293 : GoodIn TB (wsV RX7 293 RX7 yX7_slotState (.code yX7_slotState cX7_slotState 2 (some (.object "ResetRooms$State")) :: TB)) := gV q830 q832 q14 q71 q833
theorem hdX7_slotState : yX7_slotState.cls = RX7 ∧ yX7_slotState.cls ≠ "java/lang/invoke/MethodHandle" ∧ yX7_slotState.cls ≠ "java/lang/invoke/VarHandle" ∧ (parseMethodDescriptor yX7_slotState.desc).map (fun d => d.parameters.length) = some 1 := by decide +kernel
theorem gX7_297 : GoodIn TB (wsV RX7 297 RX6 yX6_copyFrom (.code yX6_copyFrom cX6_copyFrom 2 none :: TB)) := gV q834 q835 q836 q73 q837
theorem hdX6_copyFrom : yX6_copyFrom.cls = RX6 ∧ yX6_copyFrom.cls ≠ "java/lang/invoke/MethodHandle" ∧ yX6_copyFrom.cls ≠ "java/lang/invoke/VarHandle" ∧ (parseMethodDescriptor yX6_copyFrom.desc).map (fun d => d.parameters.length) = some 1 := by decide +kernel
theorem gX7_305 : GoodIn TB (wsV RX7 305 RX5 yX5_boxAtHand (.code yX5_boxAtHand cX5_boxAtHand 2 (some .boolean) :: TB)) := gV q872 q678 q679 q74 q680
theorem hdX5_boxAtHand : yX5_boxAtHand.cls = RX5 ∧ yX5_boxAtHand.cls ≠ "java/lang/invoke/MethodHandle" ∧ yX5_boxAtHand.cls ≠ "java/lang/invoke/VarHandle" ∧ (parseMethodDescriptor yX5_boxAtHand.desc).map (fun d => d.parameters.length) = some 1 := by decide +kernel
theorem gX7_308 : GoodIn TB (va_wsS RX7 308 yX7_asNumber (.code yX7_asNumber cX7_asNumber 1 (some .int) :: TB)) := gS q873 q641 q71 q642
theorem hsX7_asNumber : yX7_asNumber.cls ≠ "java/lang/invoke/MethodHandle" ∧ yX7_asNumber.cls ≠ "java/lang/invoke/VarHandle" ∧ (parseMethodDescriptor yX7_asNumber.desc).map (fun d => d.parameters.length) = some 1 := by decide +kernel
theorem gX7_312 : GoodIn TB (wsV RX7 312 RX5 yX5_propsIn (.code yX5_propsIn cX5_propsIn 4 (some .int) :: TB)) := gV q874 q592 q593 q74 q594
theorem hdX5_propsIn : yX5_propsIn.cls = RX5 ∧ yX5_propsIn.cls ≠ "java/lang/invoke/MethodHandle" ∧ yX5_propsIn.cls ≠ "java/lang/invoke/VarHandle" ∧ (parseMethodDescriptor yX5_propsIn.desc).map (fun d => d.parameters.length) = some 1 := by decide +kernel
theorem gX7_315 : GoodIn TB (wsV RX7 315 RX5 yX5_boxesIn (.code yX5_boxesIn cX5_boxesIn 4 (some .int) :: TB)) := gV q875 q876 q877 q74 q878
theorem hdX5_boxesIn : yX5_boxesIn.cls = RX5 ∧ yX5_boxesIn.cls ≠ "java/lang/invoke/MethodHandle" ∧ yX5_boxesIn.cls ≠ "java/lang/invoke/VarHandle" ∧ (parseMethodDescriptor yX5_boxesIn.desc).map (fun d => d.parameters.length) = some 1 := by decide +kernel
theorem gX7_321 : GoodIn TB (wsV RX7 321 RX5 yX5_cluesOn (.code yX5_cluesOn cX5_cluesOn 4 (some .int) :: TB)) := gV q883 q884 q885 q74 q886
theorem hdX5_cluesOn : yX5_cluesOn.cls = RX5 ∧ yX5_cluesOn.cls ≠ "java/lang/invoke/MethodHandle" ∧ yX5_cluesOn.cls ≠ "java/lang/invoke/VarHandle" ∧ (parseMethodDescriptor yX5_cluesOn.desc).map (fun d => d.parameters.length) = some 1 := by decide +kernel
theorem gX7_324 : GoodIn TB (wsV RX7 324 RX5 yX5_locksWith (.code yX5_locksWith cX5_locksWith 4 (some .int) :: TB)) := gV q887 q888 q889 q74 q890
theorem hdX5_locksWith : yX5_locksWith.cls = RX5 ∧ yX5_locksWith.cls ≠ "java/lang/invoke/MethodHandle" ∧ yX5_locksWith.cls ≠ "java/lang/invoke/VarHandle" ∧ (parseMethodDescriptor yX5_locksWith.desc).map (fun d => d.parameters.length) = some 1 := by decide +kernel
theorem gX7_342 : GoodIn TB (wsV RX7 342 RX5 yX5_heldBits (.code yX5_heldBits cX5_heldBits 3 (some .int) :: TB)) := gV q899 q900 q901 q74 q902
theorem hdX5_heldBits : yX5_heldBits.cls = RX5 ∧ yX5_heldBits.cls ≠ "java/lang/invoke/MethodHandle" ∧ yX5_heldBits.cls ≠ "java/lang/invoke/VarHandle" ∧ (parseMethodDescriptor yX5_heldBits.desc).map (fun d => d.parameters.length) = some 0 := by decide +kernel
theorem gX7_347 : GoodIn TB (wsV RX7 347 RX6 yX6_latestStart (.code yX6_latestStart cX6_latestStart 4 (some .int) :: TB)) := gV q907 q908 q909 q73 q910
theorem hdX6_latestStart : yX6_latestStart.cls = RX6 ∧ yX6_latestStart.cls ≠ "java/lang/invoke/MethodHandle" ∧ yX6_latestStart.cls ≠ "java/lang/invoke/VarHandle" ∧ (parseMethodDescriptor yX6_latestStart.desc).map (fun d => d.parameters.length) = some 1 := by decide +kernel
theorem gX7_353 : GoodIn TB (wsV RX7 353 RX5 yX5_copyFrom (.code yX5_copyFrom cX5_copyFrom 2 none :: TB)) := gV q923 q839 q840 q74 q841
theorem hdX5_copyFrom : yX5_copyFrom.cls = RX5 ∧ yX5_copyFrom.cls ≠ "java/lang/invoke/MethodHandle" ∧ yX5_copyFrom.cls ≠ "java/lang/invoke/VarHandle" ∧ (parseMethodDescriptor yX5_copyFrom.desc).map (fun d => d.parameters.length) = some 1 := by decide +kernel
theorem gX7_356 : GoodIn TB (wsV RX7 356 RX5 yX5_minutesToExit (.code yX5_minutesToExit cX5_minutesToExit 4 (some .int) :: TB)) := gV q924 q925 q926 q74 q927
theorem hdX5_minutesToExit : yX5_minutesToExit.cls = RX5 ∧ yX5_minutesToExit.cls ≠ "java/lang/invoke/MethodHandle" ∧ yX5_minutesToExit.cls ≠ "java/lang/invoke/VarHandle" ∧ (parseMethodDescriptor yX5_minutesToExit.desc).map (fun d => d.parameters.length) = some 0 := by decide +kernel
theorem gX7_359 : GoodIn TB (wsV RX7 359 RX5 yX5_propsAway (.code yX5_propsAway cX5_propsAway 3 (some .int) :: TB)) := gV q940 q567 q568 q74 q569
theorem hdX5_propsAway : yX5_propsAway.cls = RX5 ∧ yX5_propsAway.cls ≠ "java/lang/invoke/MethodHandle" ∧ yX5_propsAway.cls ≠ "java/lang/invoke/VarHandle" ∧ (parseMethodDescriptor yX5_propsAway.desc).map (fun d => d.parameters.length) = some 0 := by decide +kernel
theorem gX7_362 : GoodIn TB (wsV RX7 362 RX5 yX5_paleClues (.code yX5_paleClues cX5_paleClues 3 (some .int) :: TB)) := gV q941 q942 q943 q74 q944
theorem hdX5_paleClues : yX5_paleClues.cls = RX5 ∧ yX5_paleClues.cls ≠ "java/lang/invoke/MethodHandle" ∧ yX5_paleClues.cls ≠ "java/lang/invoke/VarHandle" ∧ (parseMethodDescriptor yX5_paleClues.desc).map (fun d => d.parameters.length) = some 0 := by decide +kernel
theorem gX7_365 : GoodIn TB (wsV RX7 365 RX6 yX6_resetPaint (.code yX6_resetPaint cX6_resetPaint 4 (some .int) :: TB)) := gV q945 q946 q947 q73 q948
theorem hdX6_resetPaint : yX6_resetPaint.cls = RX6 ∧ yX6_resetPaint.cls ≠ "java/lang/invoke/MethodHandle" ∧ yX6_resetPaint.cls ≠ "java/lang/invoke/VarHandle" ∧ (parseMethodDescriptor yX6_resetPaint.desc).map (fun d => d.parameters.length) = some 0 := by decide +kernel
theorem gX7_376 : GoodIn TB (wsV RX7 376 RX3 yX3_waitingBefore (.code yX3_waitingBefore cX3_waitingBefore 4 (some .int) :: TB)) := gV q957 q958 q959 q75 q960
theorem hdX3_waitingBefore : yX3_waitingBefore.cls = RX3 ∧ yX3_waitingBefore.cls ≠ "java/lang/invoke/MethodHandle" ∧ yX3_waitingBefore.cls ≠ "java/lang/invoke/VarHandle" ∧ (parseMethodDescriptor yX3_waitingBefore.desc).map (fun d => d.parameters.length) = some 1 := by decide +kernel
theorem gX7_379 : GoodIn TB (wsV RX7 379 RX4 yX4_wins (.code yX4_wins cX4_wins 3 (some .int) :: TB)) := gV q961 q962 q963 q77 q964
theorem hdX4_wins : yX4_wins.cls = RX4 ∧ yX4_wins.cls ≠ "java/lang/invoke/MethodHandle" ∧ yX4_wins.cls ≠ "java/lang/invoke/VarHandle" ∧ (parseMethodDescriptor yX4_wins.desc).map (fun d => d.parameters.length) = some 0 := by decide +kernel
theorem gX0_19 : GoodIn TB (wsV RX0 19 RX0 yX0_matchesDigits (.code yX0_matchesDigits cX0_matchesDigits 4 (some .boolean) :: TB)) := gV q383 q385 q0 q72 q386
theorem hdX0_matchesDigits : yX0_matchesDigits.cls = RX0 ∧ yX0_matchesDigits.cls ≠ "java/lang/invoke/MethodHandle" ∧ yX0_matchesDigits.cls ≠ "java/lang/invoke/VarHandle" ∧ (parseMethodDescriptor yX0_matchesDigits.desc).map (fun d => d.parameters.length) = some 2 := by decide +kernel
theorem gX0_31 : GoodIn TB (wsV RX0 31 RX0 yX0_matchesWord (.code yX0_matchesWord cX0_matchesWord 3 (some .boolean) :: TB)) := gV q399 q401 q3 q72 q402
theorem hdX0_matchesWord : yX0_matchesWord.cls = RX0 ∧ yX0_matchesWord.cls ≠ "java/lang/invoke/MethodHandle" ∧ yX0_matchesWord.cls ≠ "java/lang/invoke/VarHandle" ∧ (parseMethodDescriptor yX0_matchesWord.desc).map (fun d => d.parameters.length) = some 1 := by decide +kernel
theorem gX0_35 : GoodIn TB (wsV RX0 35 RX0 yX0_matchesLock (.code yX0_matchesLock cX0_matchesLock 1 (some .boolean) :: TB)) := gV q451 q453 q4 q72 q454
theorem hdX0_matchesLock : yX0_matchesLock.cls = RX0 ∧ yX0_matchesLock.cls ≠ "java/lang/invoke/MethodHandle" ∧ yX0_matchesLock.cls ≠ "java/lang/invoke/VarHandle" ∧ (parseMethodDescriptor yX0_matchesLock.desc).map (fun d => d.parameters.length) = some 0 := by decide +kernel
theorem gX0_45 : GoodIn TB (wsV RX0 45 RX0 yX0_signHere (.code yX0_signHere cX0_signHere 1 (some .int) :: TB)) := gV q391 q393 q2 q72 q394
theorem hdX0_signHere : yX0_signHere.cls = RX0 ∧ yX0_signHere.cls ≠ "java/lang/invoke/MethodHandle" ∧ yX0_signHere.cls ≠ "java/lang/invoke/VarHandle" ∧ (parseMethodDescriptor yX0_signHere.desc).map (fun d => d.parameters.length) = some 0 := by decide +kernel
theorem gX0_60 : GoodIn TB (wsV RX0 60 RX0 yX0_digitHere (.code yX0_digitHere cX0_digitHere 1 (some .boolean) :: TB)) := gV q387 q389 q1 q72 q390
theorem hdX0_digitHere : yX0_digitHere.cls = RX0 ∧ yX0_digitHere.cls ≠ "java/lang/invoke/MethodHandle" ∧ yX0_digitHere.cls ≠ "java/lang/invoke/VarHandle" ∧ (parseMethodDescriptor yX0_digitHere.desc).map (fun d => d.parameters.length) = some 0 := by decide +kernel
theorem gX0_63 : GoodIn TB (wsV RX0 63 RJ0 yJ0_length_8abf5 (.code yJ0_length_8abf5 cJ0_length_8abf5 1 (some .int) :: TB)) := gV q403 q404 q405 q80 q406
theorem hdJ0_length_8abf5 : yJ0_length_8abf5.cls = RJ0 ∧ yJ0_length_8abf5.cls ≠ "java/lang/invoke/MethodHandle" ∧ yJ0_length_8abf5.cls ≠ "java/lang/invoke/VarHandle" ∧ (parseMethodDescriptor yJ0_length_8abf5.desc).map (fun d => d.parameters.length) = some 0 := by decide +kernel
theorem gX0_67 : GoodIn TB (wsV RX0 67 RJ0 yJ0_charAt_5068e (.code yJ0_charAt_5068e cJ0_charAt_5068e 2 (some .char) :: TB)) := gV q413 q414 q415 q80 q416
theorem hdJ0_charAt_5068e : yJ0_charAt_5068e.cls = RJ0 ∧ yJ0_charAt_5068e.cls ≠ "java/lang/invoke/MethodHandle" ∧ yJ0_charAt_5068e.cls ≠ "java/lang/invoke/VarHandle" ∧ (parseMethodDescriptor yJ0_charAt_5068e.desc).map (fun d => d.parameters.length) = some 1 := by decide +kernel
theorem gcX7_at : GoodIn TB (.code yX7_at cX7_at 2 (some .int) :: TB) := gC q397
theorem gcX7_put : GoodIn TB (.code yX7_put cX7_put 3 none :: TB) := gC q142
theorem gX2_27 : GoodIn TB (wsV RX2 27 RX2 yX2_appendNumber (.code yX2_appendNumber cX2_appendNumber 3 none :: TB)) := gV q620 q622 q5 q78 q623
theorem hdX2_appendNumber : yX2_appendNumber.cls = RX2 ∧ yX2_appendNumber.cls ≠ "java/lang/invoke/MethodHandle" ∧ yX2_appendNumber.cls ≠ "java/lang/invoke/VarHandle" ∧ (parseMethodDescriptor yX2_appendNumber.desc).map (fun d => d.parameters.length) = some 1 := by decide +kernel
theorem gX2_31 : GoodIn TB (wsV RX2 31 RX2 yX2_appendSign (.code yX2_appendSign cX2_appendSign 2 none :: TB)) := gV q625 q627 q6 q78 q628
theorem hdX2_appendSign : yX2_appendSign.cls = RX2 ∧ yX2_appendSign.cls ≠ "java/lang/invoke/MethodHandle" ∧ yX2_appendSign.cls ≠ "java/lang/invoke/VarHandle" ∧ (parseMethodDescriptor yX2_appendSign.desc).map (fun d => d.parameters.length) = some 1 := by decide +kernel
theorem gX2_34 : GoodIn TB (wsV RX2 34 RJ0 yJ0_length_8abf5 (.code yJ0_length_8abf5 cJ0_length_8abf5 1 (some .int) :: TB)) := gV q630 q404 q405 q80 q406
theorem gX2_39 : GoodIn TB (wsV RX2 39 RJ0 yJ0_charAt_5068e (.code yJ0_charAt_5068e cJ0_charAt_5068e 2 (some .char) :: TB)) := gV q631 q414 q415 q80 q416
theorem gX2_43 : GoodIn TB (wsV RX2 43 RX2 yX2_appendArgument (.code yX2_appendArgument cX2_appendArgument 2 none :: TB)) := gV q632 q634 q7 q78 q635
theorem hdX2_appendArgument : yX2_appendArgument.cls = RX2 ∧ yX2_appendArgument.cls ≠ "java/lang/invoke/MethodHandle" ∧ yX2_appendArgument.cls ≠ "java/lang/invoke/VarHandle" ∧ (parseMethodDescriptor yX2_appendArgument.desc).map (fun d => d.parameters.length) = some 1 := by decide +kernel
theorem gcX7_copyRow : GoodIn TB (.code yX7_copyRow cX7_copyRow 3 none :: TB) := gC q844
theorem hsX7_copyRow : yX7_copyRow.cls ≠ "java/lang/invoke/MethodHandle" ∧ yX7_copyRow.cls ≠ "java/lang/invoke/VarHandle" ∧ (parseMethodDescriptor yX7_copyRow.desc).map (fun d => d.parameters.length) = some 2 := by decide +kernel
theorem gX5_73 : GoodIn TB (wsV RX5 73 RX5 yX5_outermostClosed (.code yX5_outermostClosed cX5_outermostClosed 5 (some .int) :: TB)) := gV q561 q562 q563 q74 q564
theorem gX5_77 : GoodIn TB (wsV RX5 77 RX5 yX5_isOpen (.code yX5_isOpen cX5_isOpen 2 (some .boolean) :: TB)) := gV q574 q537 q538 q74 q539
theorem gX5_81 : GoodIn TB (wsV RX5 81 RX5 yX5_boxAtHand (.code yX5_boxAtHand cX5_boxAtHand 2 (some .boolean) :: TB)) := gV q677 q678 q679 q74 q680
theorem gX5_84 : GoodIn TB (wsV RX5 84 RX5 yX5_hasLock (.code yX5_hasLock cX5_hasLock 3 (some .boolean) :: TB)) := gV q681 q485 q486 q74 q487
theorem gX5_88 : GoodIn TB (wsV RX5 88 RX5 yX5_isHeld (.code yX5_isHeld cX5_isHeld 2 (some .boolean) :: TB)) := gV q652 q580 q581 q74 q582
theorem gX5_91 : GoodIn TB (wsV RX5 91 RX5 yX5_propsIn (.code yX5_propsIn cX5_propsIn 4 (some .int) :: TB)) := gV q591 q592 q593 q74 q594
theorem gX5_94 : GoodIn TB (wsV RX5 94 RX5 yX5_isPale (.code yX5_isPale cX5_isPale 2 (some .boolean) :: TB)) := gV q698 q699 q700 q74 q701
theorem hdX5_isPale : yX5_isPale.cls = RX5 ∧ yX5_isPale.cls ≠ "java/lang/invoke/MethodHandle" ∧ yX5_isPale.cls ≠ "java/lang/invoke/VarHandle" ∧ (parseMethodDescriptor yX5_isPale.desc).map (fun d => d.parameters.length) = some 1 := by decide +kernel
theorem gX5_97 : GoodIn TB (wsV RX5 97 RX5 yX5_clueAtHand (.code yX5_clueAtHand cX5_clueAtHand 2 (some .boolean) :: TB)) := gV q557 q558 q559 q74 q560
theorem gcX7_actMinutes : GoodIn TB (.code yX7_actMinutes cX7_actMinutes 2 (some .int) :: TB) := gC q597
theorem gX5_109 : GoodIn TB (wsV RX5 109 RX5 yX5_learnDigit (.code yX5_learnDigit cX5_learnDigit 3 none :: TB)) := gV q707 q708 q709 q74 q710
theorem gX5_113 : GoodIn TB (wsV RX5 113 RX5 yX5_stepForCode (.code yX5_stepForCode cX5_stepForCode 6 (some .int) :: TB)) := gV q729 q731 q8 q74 q732
theorem hdX5_stepForCode : yX5_stepForCode.cls = RX5 ∧ yX5_stepForCode.cls ≠ "java/lang/invoke/MethodHandle" ∧ yX5_stepForCode.cls ≠ "java/lang/invoke/VarHandle" ∧ (parseMethodDescriptor yX5_stepForCode.desc).map (fun d => d.parameters.length) = some 1 := by decide +kernel
theorem gX5_116 : GoodIn TB (wsV RX5 116 RX5 yX5_stepForThing (.code yX5_stepForThing cX5_stepForThing 4 (some .int) :: TB)) := gV q737 q739 q10 q74 q740
theorem hdX5_stepForThing : yX5_stepForThing.cls = RX5 ∧ yX5_stepForThing.cls ≠ "java/lang/invoke/MethodHandle" ∧ yX5_stepForThing.cls ≠ "java/lang/invoke/VarHandle" ∧ (parseMethodDescriptor yX5_stepForThing.desc).map (fun d => d.parameters.length) = some 1 := by decide +kernel
theorem gX5_119 : GoodIn TB (wsV RX5 119 RX5 yX5_stepToHold (.code yX5_stepToHold cX5_stepToHold 3 (some .int) :: TB)) := gV q741 q743 q11 q74 q744
theorem hdX5_stepToHold : yX5_stepToHold.cls = RX5 ∧ yX5_stepToHold.cls ≠ "java/lang/invoke/MethodHandle" ∧ yX5_stepToHold.cls ≠ "java/lang/invoke/VarHandle" ∧ (parseMethodDescriptor yX5_stepToHold.desc).map (fun d => d.parameters.length) = some 1 := by decide +kernel
theorem gX5_122 : GoodIn TB (wsV RX5 122 RX5 yX5_heldProps (.code yX5_heldProps cX5_heldProps 1 (some .int) :: TB)) := gV q745 q588 q589 q74 q590
theorem gX5_126 : GoodIn TB (wsV RX5 126 RX5 yX5_lowestHeld (.code yX5_lowestHeld cX5_lowestHeld 2 (some .int) :: TB)) := gV q746 q748 q12 q74 q749
theorem hdX5_lowestHeld : yX5_lowestHeld.cls = RX5 ∧ yX5_lowestHeld.cls ≠ "java/lang/invoke/MethodHandle" ∧ yX5_lowestHeld.cls ≠ "java/lang/invoke/VarHandle" ∧ (parseMethodDescriptor yX5_lowestHeld.desc).map (fun d => d.parameters.length) = some 0 := by decide +kernel
theorem gX5_129 : GoodIn TB (wsV RX5 129 RX5 yX5_lowestUnknownPlace (.code yX5_lowestUnknownPlace cX5_lowestUnknownPlace 3 (some .int) :: TB)) := gV q733 q735 q9 q74 q736
theorem hdX5_lowestUnknownPlace : yX5_lowestUnknownPlace.cls = RX5 ∧ yX5_lowestUnknownPlace.cls ≠ "java/lang/invoke/MethodHandle" ∧ yX5_lowestUnknownPlace.cls ≠ "java/lang/invoke/VarHandle" ∧ (parseMethodDescriptor yX5_lowestUnknownPlace.desc).map (fun d => d.parameters.length) = some 1 := by decide +kernel
theorem gX5_132 : GoodIn TB (wsV RX5 132 RX5 yX5_stepFor (.code yX5_stepFor cX5_stepFor 6 (some .int) :: TB)) := gV q928 q726 q727 q74 q728
theorem gcX7_stepKind : GoodIn TB (.code yX7_stepKind cX7_stepKind 1 (some .int) :: TB) := gC q756
theorem gX5_138 : GoodIn TB (wsV RX5 138 RX5 yX5_follow (.code yX5_follow cX5_follow 5 (some .int) :: TB)) := gV q930 q932 q15 q74 q933
theorem hdX5_follow : yX5_follow.cls = RX5 ∧ yX5_follow.cls ≠ "java/lang/invoke/MethodHandle" ∧ yX5_follow.cls ≠ "java/lang/invoke/VarHandle" ∧ (parseMethodDescriptor yX5_follow.desc).map (fun d => d.parameters.length) = some 3 := by decide +kernel
theorem gX5_142 : GoodIn TB (wsV RX5 142 RX5 yX5_readingMinutes (.code yX5_readingMinutes cX5_readingMinutes 2 (some .int) :: TB)) := gV q934 q694 q695 q74 q696
theorem gX5_145 : GoodIn TB (wsV RX5 145 RX5 yX5_learnFromClue (.code yX5_learnFromClue cX5_learnFromClue 2 none :: TB)) := gV q935 q704 q705 q74 q706
theorem gX6_53 : GoodIn TB (wsV RX6 53 RX5 yX5_copyFrom (.code yX5_copyFrom cX5_copyFrom 2 none :: TB)) := gV q838 q839 q840 q74 q841
theorem gX6_57 : GoodIn TB (wsV RX6 57 RX3 yX3_copyFrom (.code yX3_copyFrom cX3_copyFrom 2 none :: TB)) := gV q845 q846 q847 q75 q848
theorem hdX3_copyFrom : yX3_copyFrom.cls = RX3 ∧ yX3_copyFrom.cls ≠ "java/lang/invoke/MethodHandle" ∧ yX3_copyFrom.cls ≠ "java/lang/invoke/VarHandle" ∧ (parseMethodDescriptor yX3_copyFrom.desc).map (fun d => d.parameters.length) = some 1 := by decide +kernel
theorem gX6_60 : GoodIn TB (wsV RX6 60 RX1 yX1_copyFrom (.code yX1_copyFrom cX1_copyFrom 2 none :: TB)) := gV q850 q851 q852 q76 q853
theorem hdX1_copyFrom : yX1_copyFrom.cls = RX1 ∧ yX1_copyFrom.cls ≠ "java/lang/invoke/MethodHandle" ∧ yX1_copyFrom.cls ≠ "java/lang/invoke/VarHandle" ∧ (parseMethodDescriptor yX1_copyFrom.desc).map (fun d => d.parameters.length) = some 1 := by decide +kernel
theorem gX6_63 : GoodIn TB (wsV RX6 63 RX4 yX4_copyFrom (.code yX4_copyFrom cX4_copyFrom 2 none :: TB)) := gV q854 q855 q856 q77 q857
theorem hdX4_copyFrom : yX4_copyFrom.cls = RX4 ∧ yX4_copyFrom.cls ≠ "java/lang/invoke/MethodHandle" ∧ yX4_copyFrom.cls ≠ "java/lang/invoke/VarHandle" ∧ (parseMethodDescriptor yX4_copyFrom.desc).map (fun d => d.parameters.length) = some 1 := by decide +kernel
theorem gX6_66 : GoodIn TB (wsV RX6 66 RX2 yX2_copyFrom (.code yX2_copyFrom cX2_copyFrom 3 none :: TB)) := gV q859 q860 q861 q78 q862
theorem hdX2_copyFrom : yX2_copyFrom.cls = RX2 ∧ yX2_copyFrom.cls ≠ "java/lang/invoke/MethodHandle" ∧ yX2_copyFrom.cls ≠ "java/lang/invoke/VarHandle" ∧ (parseMethodDescriptor yX2_copyFrom.desc).map (fun d => d.parameters.length) = some 1 := by decide +kernel
theorem gX6_75 : GoodIn TB (wsV RX6 75 RX5 yX5_fade (.code yX5_fade cX5_fade 3 none :: TB)) := gV q553 q554 q555 q74 q556
theorem hdX5_fade : yX5_fade.cls = RX5 ∧ yX5_fade.cls ≠ "java/lang/invoke/MethodHandle" ∧ yX5_fade.cls ≠ "java/lang/invoke/VarHandle" ∧ (parseMethodDescriptor yX5_fade.desc).map (fun d => d.parameters.length) = some 1 := by decide +kernel
theorem gX6_82 : GoodIn TB (wsV RX6 82 RX6 yX6_minutesLeft (.code yX6_minutesLeft cX6_minutesLeft 1 (some .int) :: TB)) := gV q603 q604 q605 q73 q606
theorem gX6_86 : GoodIn TB (wsV RX6 86 RX6 yX6_gameMinute (.code yX6_gameMinute cX6_gameMinute 1 (some .int) :: TB)) := gV q611 q612 q613 q73 q614
theorem gX6_89 : GoodIn TB (wsV RX6 89 RX2 yX2_append (.code yX2_append cX2_append 6 none :: TB)) := gV q616 q617 q618 q78 q619
theorem hdX2_append : yX2_append.cls = RX2 ∧ yX2_append.cls ≠ "java/lang/invoke/MethodHandle" ∧ yX2_append.cls ≠ "java/lang/invoke/VarHandle" ∧ (parseMethodDescriptor yX2_append.desc).map (fun d => d.parameters.length) = some 4 := by decide +kernel
theorem gX6_109 : GoodIn TB (wsV RX6 109 RX3 yX3_remove (.code yX3_remove cX3_remove 3 none :: TB)) := gV q545 q528 q529 q75 q530
theorem gX6_118 : GoodIn TB (wsV RX6 118 RX6 yX6_pass (.code yX6_pass cX6_pass 3 none :: TB)) := gV q549 q550 q551 q73 q552
theorem gX6_127 : GoodIn TB (wsV RX6 127 RX5 yX5_propsAway (.code yX5_propsAway cX5_propsAway 3 (some .int) :: TB)) := gV q566 q567 q568 q74 q569
theorem gX6_130 : GoodIn TB (wsV RX6 130 RX5 yX5_openBoxes (.code yX5_openBoxes cX5_openBoxes 3 (some .int) :: TB)) := gV q570 q571 q572 q74 q573
theorem gcX7_asNumber : GoodIn TB (.code yX7_asNumber cX7_asNumber 1 (some .int) :: TB) := gC q642
theorem gX6_150 : GoodIn TB (wsV RX6 150 RX4 yX4_append (.code yX4_append cX4_append 5 none :: TB)) := gV q643 q644 q645 q77 q646
theorem hdX4_append : yX4_append.cls = RX4 ∧ yX4_append.cls ≠ "java/lang/invoke/MethodHandle" ∧ yX4_append.cls ≠ "java/lang/invoke/VarHandle" ∧ (parseMethodDescriptor yX4_append.desc).map (fun d => d.parameters.length) = some 3 := by decide +kernel
theorem gX6_153 : GoodIn TB (wsV RX6 153 RX5 yX5_dropHeldProps (.code yX5_dropHeldProps cX5_dropHeldProps 2 none :: TB)) := gV q648 q649 q650 q74 q651
theorem hdX5_dropHeldProps : yX5_dropHeldProps.cls = RX5 ∧ yX5_dropHeldProps.cls ≠ "java/lang/invoke/MethodHandle" ∧ yX5_dropHeldProps.cls ≠ "java/lang/invoke/VarHandle" ∧ (parseMethodDescriptor yX5_dropHeldProps.desc).map (fun d => d.parameters.length) = some 0 := by decide +kernel
theorem gX6_156 : GoodIn TB (wsV RX6 156 RX5 yX5_forgetDigits (.code yX5_forgetDigits cX5_forgetDigits 2 none :: TB)) := gV q653 q654 q655 q74 q656
theorem hdX5_forgetDigits : yX5_forgetDigits.cls = RX5 ∧ yX5_forgetDigits.cls ≠ "java/lang/invoke/MethodHandle" ∧ yX5_forgetDigits.cls ≠ "java/lang/invoke/VarHandle" ∧ (parseMethodDescriptor yX5_forgetDigits.desc).map (fun d => d.parameters.length) = some 0 := by decide +kernel
theorem gX6_161 : GoodIn TB (wsV RX6 161 RX6 yX6_endGame (.code yX6_endGame cX6_endGame 2 none :: TB)) := gV q636 q637 q638 q73 q639
theorem gX6_165 : GoodIn TB (wsV RX6 165 RX5 yX5_inkLack (.code yX5_inkLack cX5_inkLack 2 (some .int) :: TB)) := gV q789 q782 q783 q74 q784
theorem gX6_179 : GoodIn TB (wsV RX6 179 RX5 yX5_isPale (.code yX5_isPale cX5_isPale 2 (some .boolean) :: TB)) := gV q803 q699 q700 q74 q701
theorem gX6_183 : GoodIn TB (wsV RX6 183 RX6 yX6_cluesOfReset (.code yX6_cluesOfReset cX6_cluesOfReset 4 (some .int) :: TB)) := gV q799 q801 q13 q73 q802
theorem hdX6_cluesOfReset : yX6_cluesOfReset.cls = RX6 ∧ yX6_cluesOfReset.cls ≠ "java/lang/invoke/MethodHandle" ∧ yX6_cluesOfReset.cls ≠ "java/lang/invoke/VarHandle" ∧ (parseMethodDescriptor yX6_cluesOfReset.desc).map (fun d => d.parameters.length) = some 0 := by decide +kernel
theorem gX6_186 : GoodIn TB (va_wsS RX6 186 yJ6_bitCount_0f7a4 (.code yJ6_bitCount_0f7a4 cJ6_bitCount_0f7a4 1 (some .int) :: TB)) := gS q804 q805 q85 q806
theorem hsJ6_bitCount_0f7a4 : yJ6_bitCount_0f7a4.cls ≠ "java/lang/invoke/MethodHandle" ∧ yJ6_bitCount_0f7a4.cls ≠ "java/lang/invoke/VarHandle" ∧ (parseMethodDescriptor yJ6_bitCount_0f7a4.desc).map (fun d => d.parameters.length) = some 1 := by decide +kernel
theorem gX6_191 : GoodIn TB (wsV RX6 191 RX5 yX5_bringPropsHome (.code yX5_bringPropsHome cX5_bringPropsHome 2 none :: TB)) := gV q814 q815 q816 q74 q817
theorem hdX5_bringPropsHome : yX5_bringPropsHome.cls = RX5 ∧ yX5_bringPropsHome.cls ≠ "java/lang/invoke/MethodHandle" ∧ yX5_bringPropsHome.cls ≠ "java/lang/invoke/VarHandle" ∧ (parseMethodDescriptor yX5_bringPropsHome.desc).map (fun d => d.parameters.length) = some 0 := by decide +kernel
theorem gX6_194 : GoodIn TB (wsV RX6 194 RX5 yX5_closeBoxes (.code yX5_closeBoxes cX5_closeBoxes 2 none :: TB)) := gV q818 q819 q820 q74 q821
theorem hdX5_closeBoxes : yX5_closeBoxes.cls = RX5 ∧ yX5_closeBoxes.cls ≠ "java/lang/invoke/MethodHandle" ∧ yX5_closeBoxes.cls ≠ "java/lang/invoke/VarHandle" ∧ (parseMethodDescriptor yX5_closeBoxes.desc).map (fun d => d.parameters.length) = some 0 := by decide +kernel
theorem gX6_197 : GoodIn TB (wsV RX6 197 RX6 yX6_refill (.code yX6_refill cX6_refill 2 none :: TB)) := gV q822 q786 q787 q73 q788
theorem gX8_30 : GoodIn TB (va_wsS RX8 30 yX8_in (.code yX8_in cX8_in 3 (some .boolean) :: TB)) := gS q1021 q1022 q79 q1023
theorem hsX8_in : yX8_in.cls ≠ "java/lang/invoke/MethodHandle" ∧ yX8_in.cls ≠ "java/lang/invoke/VarHandle" ∧ (parseMethodDescriptor yX8_in.desc).map (fun d => d.parameters.length) = some 3 := by decide +kernel
theorem gX8_34 : GoodIn TB (wsV RX8 34 RX8 yX8_isOpen (.code yX8_isOpen cX8_isOpen 2 (some .boolean) :: TB)) := gV q1120 q1122 q27 q79 q1123
theorem hdX8_isOpen : yX8_isOpen.cls = RX8 ∧ yX8_isOpen.cls ≠ "java/lang/invoke/MethodHandle" ∧ yX8_isOpen.cls ≠ "java/lang/invoke/VarHandle" ∧ (parseMethodDescriptor yX8_isOpen.desc).map (fun d => d.parameters.length) = some 1 := by decide +kernel
theorem gX8_38 : GoodIn TB (wsV RX8 38 RX8 yX8_closedFrom (.code yX8_closedFrom cX8_closedFrom 4 (some .int) :: TB)) := gV q1140 q1142 q32 q79 q1143
theorem hdX8_closedFrom : yX8_closedFrom.cls = RX8 ∧ yX8_closedFrom.cls ≠ "java/lang/invoke/MethodHandle" ∧ yX8_closedFrom.cls ≠ "java/lang/invoke/VarHandle" ∧ (parseMethodDescriptor yX8_closedFrom.desc).map (fun d => d.parameters.length) = some 1 := by decide +kernel
theorem gX8_42 : GoodIn TB (wsV RX8 42 RX8 yX8_closedAround (.code yX8_closedAround cX8_closedAround 2 (some .int) :: TB)) := gV q1188 q1190 q42 q79 q1191
theorem hdX8_closedAround : yX8_closedAround.cls = RX8 ∧ yX8_closedAround.cls ≠ "java/lang/invoke/MethodHandle" ∧ yX8_closedAround.cls ≠ "java/lang/invoke/VarHandle" ∧ (parseMethodDescriptor yX8_closedAround.desc).map (fun d => d.parameters.length) = some 1 := by decide +kernel
theorem gX8_45 : GoodIn TB (wsV RX8 45 RX8 yX8_isHeld (.code yX8_isHeld cX8_isHeld 2 (some .boolean) :: TB)) := gV q1136 q1138 q31 q79 q1139
theorem hdX8_isHeld : yX8_isHeld.cls = RX8 ∧ yX8_isHeld.cls ≠ "java/lang/invoke/MethodHandle" ∧ yX8_isHeld.cls ≠ "java/lang/invoke/VarHandle" ∧ (parseMethodDescriptor yX8_isHeld.desc).map (fun d => d.parameters.length) = some 1 := by decide +kernel
theorem gX8_48 : GoodIn TB (wsV RX8 48 RX8 yX8_propAtHand (.code yX8_propAtHand cX8_propAtHand 2 (some .boolean) :: TB)) := gV q1132 q1134 q30 q79 q1135
theorem hdX8_propAtHand : yX8_propAtHand.cls = RX8 ∧ yX8_propAtHand.cls ≠ "java/lang/invoke/MethodHandle" ∧ yX8_propAtHand.cls ≠ "java/lang/invoke/VarHandle" ∧ (parseMethodDescriptor yX8_propAtHand.desc).map (fun d => d.parameters.length) = some 1 := by decide +kernel
theorem gX8_51 : GoodIn TB (wsV RX8 51 RX8 yX8_clueAtHand (.code yX8_clueAtHand cX8_clueAtHand 2 (some .boolean) :: TB)) := gV q1128 q1130 q29 q79 q1131
theorem hdX8_clueAtHand : yX8_clueAtHand.cls = RX8 ∧ yX8_clueAtHand.cls ≠ "java/lang/invoke/MethodHandle" ∧ yX8_clueAtHand.cls ≠ "java/lang/invoke/VarHandle" ∧ (parseMethodDescriptor yX8_clueAtHand.desc).map (fun d => d.parameters.length) = some 1 := by decide +kernel
theorem gX8_65 : GoodIn TB (wsV RX8 65 RX8 yX8_sees (.code yX8_sees cX8_sees 1 (some .int) :: TB)) := gV q1052 q1054 q19 q79 q1055
theorem hdX8_sees : yX8_sees.cls = RX8 ∧ yX8_sees.cls ≠ "java/lang/invoke/MethodHandle" ∧ yX8_sees.cls ≠ "java/lang/invoke/VarHandle" ∧ (parseMethodDescriptor yX8_sees.desc).map (fun d => d.parameters.length) = some 0 := by decide +kernel
theorem gX8_69 : GoodIn TB (wsV RX8 69 RX8 yX8_seesDigit (.code yX8_seesDigit cX8_seesDigit 1 (some .boolean) :: TB)) := gV q1048 q1050 q18 q79 q1051
theorem hdX8_seesDigit : yX8_seesDigit.cls = RX8 ∧ yX8_seesDigit.cls ≠ "java/lang/invoke/MethodHandle" ∧ yX8_seesDigit.cls ≠ "java/lang/invoke/VarHandle" ∧ (parseMethodDescriptor yX8_seesDigit.desc).map (fun d => d.parameters.length) = some 0 := by decide +kernel
theorem gX8_76 : GoodIn TB (va_wsS RX8 76 yX8_lockLetter (.code yX8_lockLetter cX8_lockLetter 2 (some .int) :: TB)) := gS q1064 q1065 q79 q1066
theorem hsX8_lockLetter : yX8_lockLetter.cls ≠ "java/lang/invoke/MethodHandle" ∧ yX8_lockLetter.cls ≠ "java/lang/invoke/VarHandle" ∧ (parseMethodDescriptor yX8_lockLetter.desc).map (fun d => d.parameters.length) = some 2 := by decide +kernel
theorem gX8_80 : GoodIn TB (wsV RX8 80 RX8 yX8_takes (.code yX8_takes cX8_takes 2 none :: TB)) := gV q1056 q1058 q20 q79 q1059
theorem hdX8_takes : yX8_takes.cls = RX8 ∧ yX8_takes.cls ≠ "java/lang/invoke/MethodHandle" ∧ yX8_takes.cls ≠ "java/lang/invoke/VarHandle" ∧ (parseMethodDescriptor yX8_takes.desc).map (fun d => d.parameters.length) = some 1 := by decide +kernel
theorem gX8_87 : GoodIn TB (wsV RX8 87 RX8 yX8_number (.code yX8_number cX8_number 5 (some .int) :: TB)) := gV q1044 q1046 q17 q79 q1047
theorem hdX8_number : yX8_number.cls = RX8 ∧ yX8_number.cls ≠ "java/lang/invoke/MethodHandle" ∧ yX8_number.cls ≠ "java/lang/invoke/VarHandle" ∧ (parseMethodDescriptor yX8_number.desc).map (fun d => d.parameters.length) = some 2 := by decide +kernel
theorem gX8_93 : GoodIn TB (wsV RX8 93 RX8 yX8_readsLock (.code yX8_readsLock cX8_readsLock 2 none :: TB)) := gV q1060 q1062 q21 q79 q1063
theorem hdX8_readsLock : yX8_readsLock.cls = RX8 ∧ yX8_readsLock.cls ≠ "java/lang/invoke/MethodHandle" ∧ yX8_readsLock.cls ≠ "java/lang/invoke/VarHandle" ∧ (parseMethodDescriptor yX8_readsLock.desc).map (fun d => d.parameters.length) = some 0 := by decide +kernel
theorem gX8_96 : GoodIn TB (wsV RX8 96 RX8 yX8_faultOfText (.code yX8_faultOfText cX8_faultOfText 1 (some .int) :: TB)) := gV q1040 q1042 q16 q79 q1043
theorem hdX8_faultOfText : yX8_faultOfText.cls = RX8 ∧ yX8_faultOfText.cls ≠ "java/lang/invoke/MethodHandle" ∧ yX8_faultOfText.cls ≠ "java/lang/invoke/VarHandle" ∧ (parseMethodDescriptor yX8_faultOfText.desc).map (fun d => d.parameters.length) = some 0 := by decide +kernel
theorem gX8_99 : GoodIn TB (wsV RX8 99 RX8 yX8_noBox (.code yX8_noBox cX8_noBox 2 (some .boolean) :: TB)) := gV q1067 q1069 q22 q79 q1070
theorem hdX8_noBox : yX8_noBox.cls = RX8 ∧ yX8_noBox.cls ≠ "java/lang/invoke/MethodHandle" ∧ yX8_noBox.cls ≠ "java/lang/invoke/VarHandle" ∧ (parseMethodDescriptor yX8_noBox.desc).map (fun d => d.parameters.length) = some 1 := by decide +kernel
theorem gX8_102 : GoodIn TB (wsV RX8 102 RX8 yX8_noProp (.code yX8_noProp cX8_noProp 2 (some .boolean) :: TB)) := gV q1071 q1073 q23 q79 q1074
theorem hdX8_noProp : yX8_noProp.cls = RX8 ∧ yX8_noProp.cls ≠ "java/lang/invoke/MethodHandle" ∧ yX8_noProp.cls ≠ "java/lang/invoke/VarHandle" ∧ (parseMethodDescriptor yX8_noProp.desc).map (fun d => d.parameters.length) = some 1 := by decide +kernel
theorem gX8_105 : GoodIn TB (wsV RX8 105 RX8 yX8_plays (.code yX8_plays cX8_plays 1 (some .boolean) :: TB)) := gV q1075 q1077 q24 q79 q1078
theorem hdX8_plays : yX8_plays.cls = RX8 ∧ yX8_plays.cls ≠ "java/lang/invoke/MethodHandle" ∧ yX8_plays.cls ≠ "java/lang/invoke/VarHandle" ∧ (parseMethodDescriptor yX8_plays.desc).map (fun d => d.parameters.length) = some 0 := by decide +kernel
theorem gX8_109 : GoodIn TB (wsV RX8 109 RX8 yX8_noGroup (.code yX8_noGroup cX8_noGroup 2 (some .boolean) :: TB)) := gV q1108 q1110 q25 q79 q1111
theorem hdX8_noGroup : yX8_noGroup.cls = RX8 ∧ yX8_noGroup.cls ≠ "java/lang/invoke/MethodHandle" ∧ yX8_noGroup.cls ≠ "java/lang/invoke/VarHandle" ∧ (parseMethodDescriptor yX8_noGroup.desc).map (fun d => d.parameters.length) = some 1 := by decide +kernel
theorem gX8_112 : GoodIn TB (wsV RX8 112 RX8 yX8_removeGroup (.code yX8_removeGroup cX8_removeGroup 3 none :: TB)) := gV q1112 q1114 q26 q79 q1115
theorem hdX8_removeGroup : yX8_removeGroup.cls = RX8 ∧ yX8_removeGroup.cls ≠ "java/lang/invoke/MethodHandle" ∧ yX8_removeGroup.cls ≠ "java/lang/invoke/VarHandle" ∧ (parseMethodDescriptor yX8_removeGroup.desc).map (fun d => d.parameters.length) = some 1 := by decide +kernel
theorem gX8_115 : GoodIn TB (wsV RX8 115 RX8 yX8_pass (.code yX8_pass cX8_pass 5 none :: TB)) := gV q1124 q1126 q28 q79 q1127
theorem hdX8_pass : yX8_pass.cls = RX8 ∧ yX8_pass.cls ≠ "java/lang/invoke/MethodHandle" ∧ yX8_pass.cls ≠ "java/lang/invoke/VarHandle" ∧ (parseMethodDescriptor yX8_pass.desc).map (fun d => d.parameters.length) = some 1 := by decide +kernel
theorem gX8_118 : GoodIn TB (wsV RX8 118 RX8 yX8_notAtHome (.code yX8_notAtHome cX8_notAtHome 3 (some .int) :: TB)) := gV q1144 q1146 q33 q79 q1147
theorem hdX8_notAtHome : yX8_notAtHome.cls = RX8 ∧ yX8_notAtHome.cls ≠ "java/lang/invoke/MethodHandle" ∧ yX8_notAtHome.cls ≠ "java/lang/invoke/VarHandle" ∧ (parseMethodDescriptor yX8_notAtHome.desc).map (fun d => d.parameters.length) = some 0 := by decide +kernel
theorem gX8_121 : GoodIn TB (wsV RX8 121 RX8 yX8_openOnes (.code yX8_openOnes cX8_openOnes 3 (some .int) :: TB)) := gV q1148 q1150 q34 q79 q1151
theorem hdX8_openOnes : yX8_openOnes.cls = RX8 ∧ yX8_openOnes.cls ≠ "java/lang/invoke/MethodHandle" ∧ yX8_openOnes.cls ≠ "java/lang/invoke/VarHandle" ∧ (parseMethodDescriptor yX8_openOnes.desc).map (fun d => d.parameters.length) = some 0 := by decide +kernel
theorem gX8_124 : GoodIn TB (wsV RX8 124 RX8 yX8_lessHalf (.code yX8_lessHalf cX8_lessHalf 3 (some .int) :: TB)) := gV q1160 q1162 q36 q79 q1163
theorem hdX8_lessHalf : yX8_lessHalf.cls = RX8 ∧ yX8_lessHalf.cls ≠ "java/lang/invoke/MethodHandle" ∧ yX8_lessHalf.cls ≠ "java/lang/invoke/VarHandle" ∧ (parseMethodDescriptor yX8_lessHalf.desc).map (fun d => d.parameters.length) = some 1 := by decide +kernel
theorem gX8_127 : GoodIn TB (wsV RX8 127 RX8 yX8_minutesLeft (.code yX8_minutesLeft cX8_minutesLeft 1 (some .int) :: TB)) := gV q1168 q1170 q38 q79 q1171
theorem hdX8_minutesLeft : yX8_minutesLeft.cls = RX8 ∧ yX8_minutesLeft.cls ≠ "java/lang/invoke/MethodHandle" ∧ yX8_minutesLeft.cls ≠ "java/lang/invoke/VarHandle" ∧ (parseMethodDescriptor yX8_minutesLeft.desc).map (fun d => d.parameters.length) = some 0 := by decide +kernel
theorem gX8_130 : GoodIn TB (wsV RX8 130 RX8 yX8_note (.code yX8_note cX8_note 5 none :: TB)) := gV q1172 q1174 q39 q79 q1175
theorem hdX8_note : yX8_note.cls = RX8 ∧ yX8_note.cls ≠ "java/lang/invoke/MethodHandle" ∧ yX8_note.cls ≠ "java/lang/invoke/VarHandle" ∧ (parseMethodDescriptor yX8_note.desc).map (fun d => d.parameters.length) = some 3 := by decide +kernel
theorem gX8_134 : GoodIn TB (wsV RX8 134 RX8 yX8_end (.code yX8_end cX8_end 3 none :: TB)) := gV q1176 q1178 q40 q79 q1179
theorem hdX8_end : yX8_end.cls = RX8 ∧ yX8_end.cls ≠ "java/lang/invoke/MethodHandle" ∧ yX8_end.cls ≠ "java/lang/invoke/VarHandle" ∧ (parseMethodDescriptor yX8_end.desc).map (fun d => d.parameters.length) = some 1 := by decide +kernel
theorem gX8_137 : GoodIn TB (wsV RX8 137 RX8 yX8_held (.code yX8_held cX8_held 3 (some .int) :: TB)) := gV q1156 q1158 q35 q79 q1159
theorem hdX8_held : yX8_held.cls = RX8 ∧ yX8_held.cls ≠ "java/lang/invoke/MethodHandle" ∧ yX8_held.cls ≠ "java/lang/invoke/VarHandle" ∧ (parseMethodDescriptor yX8_held.desc).map (fun d => d.parameters.length) = some 0 := by decide +kernel
theorem gX8_140 : GoodIn TB (wsV RX8 140 RX8 yX8_isOver (.code yX8_isOver cX8_isOver 2 (some .boolean) :: TB)) := gV q1164 q1166 q37 q79 q1167
theorem hdX8_isOver : yX8_isOver.cls = RX8 ∧ yX8_isOver.cls ≠ "java/lang/invoke/MethodHandle" ∧ yX8_isOver.cls ≠ "java/lang/invoke/VarHandle" ∧ (parseMethodDescriptor yX8_isOver.desc).map (fun d => d.parameters.length) = some 1 := by decide +kernel
theorem gX8_143 : GoodIn TB (wsV RX8 143 RX8 yX8_boxAtHand (.code yX8_boxAtHand cX8_boxAtHand 2 (some .boolean) :: TB)) := gV q1184 q1186 q41 q79 q1187
theorem hdX8_boxAtHand : yX8_boxAtHand.cls = RX8 ∧ yX8_boxAtHand.cls ≠ "java/lang/invoke/MethodHandle" ∧ yX8_boxAtHand.cls ≠ "java/lang/invoke/VarHandle" ∧ (parseMethodDescriptor yX8_boxAtHand.desc).map (fun d => d.parameters.length) = some 1 := by decide +kernel
theorem gX8_146 : GoodIn TB (wsV RX8 146 RX8 yX8_lets (.code yX8_lets cX8_lets 4 (some .boolean) :: TB)) := gV q1196 q1198 q43 q79 q1199
theorem hdX8_lets : yX8_lets.cls = RX8 ∧ yX8_lets.cls ≠ "java/lang/invoke/MethodHandle" ∧ yX8_lets.cls ≠ "java/lang/invoke/VarHandle" ∧ (parseMethodDescriptor yX8_lets.desc).map (fun d => d.parameters.length) = some 1 := by decide +kernel
theorem gX8_149 : GoodIn TB (wsV RX8 149 RX8 yX8_noClue (.code yX8_noClue cX8_noClue 2 (some .boolean) :: TB)) := gV q1204 q1206 q44 q79 q1207
theorem hdX8_noClue : yX8_noClue.cls = RX8 ∧ yX8_noClue.cls ≠ "java/lang/invoke/MethodHandle" ∧ yX8_noClue.cls ≠ "java/lang/invoke/VarHandle" ∧ (parseMethodDescriptor yX8_noClue.desc).map (fun d => d.parameters.length) = some 1 := by decide +kernel
theorem gX8_152 : GoodIn TB (wsV RX8 152 RX8 yX8_readMinutes (.code yX8_readMinutes cX8_readMinutes 3 (some .int) :: TB)) := gV q1208 q1210 q45 q79 q1211
theorem hdX8_readMinutes : yX8_readMinutes.cls = RX8 ∧ yX8_readMinutes.cls ≠ "java/lang/invoke/MethodHandle" ∧ yX8_readMinutes.cls ≠ "java/lang/invoke/VarHandle" ∧ (parseMethodDescriptor yX8_readMinutes.desc).map (fun d => d.parameters.length) = some 1 := by decide +kernel
theorem gX8_155 : GoodIn TB (wsV RX8 155 RX8 yX8_learn (.code yX8_learn cX8_learn 2 none :: TB)) := gV q1212 q1214 q46 q79 q1215
theorem hdX8_learn : yX8_learn.cls = RX8 ∧ yX8_learn.cls ≠ "java/lang/invoke/MethodHandle" ∧ yX8_learn.cls ≠ "java/lang/invoke/VarHandle" ∧ (parseMethodDescriptor yX8_learn.desc).map (fun d => d.parameters.length) = some 1 := by decide +kernel
theorem gX8_158 : GoodIn TB (wsV RX8 158 RX8 yX8_digitOf (.code yX8_digitOf cX8_digitOf 4 (some .int) :: TB)) := gV q1216 q1218 q47 q79 q1219
theorem hdX8_digitOf : yX8_digitOf.cls = RX8 ∧ yX8_digitOf.cls ≠ "java/lang/invoke/MethodHandle" ∧ yX8_digitOf.cls ≠ "java/lang/invoke/VarHandle" ∧ (parseMethodDescriptor yX8_digitOf.desc).map (fun d => d.parameters.length) = some 1 := by decide +kernel
theorem gX8_161 : GoodIn TB (wsV RX8 161 RX8 yX8_lowestHeld (.code yX8_lowestHeld cX8_lowestHeld 2 (some .int) :: TB)) := gV q1248 q1250 q53 q79 q1251
theorem hdX8_lowestHeld : yX8_lowestHeld.cls = RX8 ∧ yX8_lowestHeld.cls ≠ "java/lang/invoke/MethodHandle" ∧ yX8_lowestHeld.cls ≠ "java/lang/invoke/VarHandle" ∧ (parseMethodDescriptor yX8_lowestHeld.desc).map (fun d => d.parameters.length) = some 0 := by decide +kernel
theorem gX8_164 : GoodIn TB (wsV RX8 164 RX8 yX8_lowestUnknown (.code yX8_lowestUnknown cX8_lowestUnknown 3 (some .int) :: TB)) := gV q1236 q1238 q50 q79 q1239
theorem hdX8_lowestUnknown : yX8_lowestUnknown.cls = RX8 ∧ yX8_lowestUnknown.cls ≠ "java/lang/invoke/MethodHandle" ∧ yX8_lowestUnknown.cls ≠ "java/lang/invoke/VarHandle" ∧ (parseMethodDescriptor yX8_lowestUnknown.desc).map (fun d => d.parameters.length) = some 1 := by decide +kernel
theorem gX8_167 : GoodIn TB (wsV RX8 167 RX8 yX8_clueFor (.code yX8_clueFor cX8_clueFor 7 (some .int) :: TB)) := gV q1240 q1242 q51 q79 q1243
theorem hdX8_clueFor : yX8_clueFor.cls = RX8 ∧ yX8_clueFor.cls ≠ "java/lang/invoke/MethodHandle" ∧ yX8_clueFor.cls ≠ "java/lang/invoke/VarHandle" ∧ (parseMethodDescriptor yX8_clueFor.desc).map (fun d => d.parameters.length) = some 3 := by decide +kernel
theorem gX8_174 : GoodIn TB (wsV RX8 174 RX8 yX8_stepToHold (.code yX8_stepToHold cX8_stepToHold 2 (some .int) :: TB)) := gV q1244 q1246 q52 q79 q1247
theorem hdX8_stepToHold : yX8_stepToHold.cls = RX8 ∧ yX8_stepToHold.cls ≠ "java/lang/invoke/MethodHandle" ∧ yX8_stepToHold.cls ≠ "java/lang/invoke/VarHandle" ∧ (parseMethodDescriptor yX8_stepToHold.desc).map (fun d => d.parameters.length) = some 1 := by decide +kernel
theorem gX8_177 : GoodIn TB (wsV RX8 177 RX8 yX8_stepFor (.code yX8_stepFor cX8_stepFor 6 (some .int) :: TB)) := gV q1232 q1234 q49 q79 q1235
theorem hdX8_stepFor : yX8_stepFor.cls = RX8 ∧ yX8_stepFor.cls ≠ "java/lang/invoke/MethodHandle" ∧ yX8_stepFor.cls ≠ "java/lang/invoke/VarHandle" ∧ (parseMethodDescriptor yX8_stepFor.desc).map (fun d => d.parameters.length) = some 1 := by decide +kernel
theorem gX8_180 : GoodIn TB (wsV RX8 180 RX8 yX8_step (.code yX8_step cX8_step 5 (some .int) :: TB)) := gV q1228 q1230 q48 q79 q1231
theorem hdX8_step : yX8_step.cls = RX8 ∧ yX8_step.cls ≠ "java/lang/invoke/MethodHandle" ∧ yX8_step.cls ≠ "java/lang/invoke/VarHandle" ∧ (parseMethodDescriptor yX8_step.desc).map (fun d => d.parameters.length) = some 0 := by decide +kernel
theorem gX8_183 : GoodIn TB (wsV RX8 183 RX8 yX8_planned (.code yX8_planned cX8_planned 5 (some .int) :: TB)) := gV q1264 q1266 q54 q79 q1267
theorem hdX8_planned : yX8_planned.cls = RX8 ∧ yX8_planned.cls ≠ "java/lang/invoke/MethodHandle" ∧ yX8_planned.cls ≠ "java/lang/invoke/VarHandle" ∧ (parseMethodDescriptor yX8_planned.desc).map (fun d => d.parameters.length) = some 1 := by decide +kernel
theorem gX8_186 : GoodIn TB (wsV RX8 186 RX8 yX8_written (.code yX8_written cX8_written 7 (some .int) :: TB)) := gV q1292 q1294 q56 q79 q1295
theorem hdX8_written : yX8_written.cls = RX8 ∧ yX8_written.cls ≠ "java/lang/invoke/MethodHandle" ∧ yX8_written.cls ≠ "java/lang/invoke/VarHandle" ∧ (parseMethodDescriptor yX8_written.desc).map (fun d => d.parameters.length) = some 2 := by decide +kernel
theorem gX8_190 : GoodIn TB (wsV RX8 190 RX8 yX8_resetMinutes (.code yX8_resetMinutes cX8_resetMinutes 1 (some .int) :: TB)) := gV q1288 q1290 q55 q79 q1291
theorem hdX8_resetMinutes : yX8_resetMinutes.cls = RX8 ∧ yX8_resetMinutes.cls ≠ "java/lang/invoke/MethodHandle" ∧ yX8_resetMinutes.cls ≠ "java/lang/invoke/VarHandle" ∧ (parseMethodDescriptor yX8_resetMinutes.desc).map (fun d => d.parameters.length) = some 0 := by decide +kernel
theorem gX8_193 : GoodIn TB (wsV RX8 193 RX8 yX8_propsIn (.code yX8_propsIn cX8_propsIn 4 (some .int) :: TB)) := gV q1300 q1302 q57 q79 q1303
theorem hdX8_propsIn : yX8_propsIn.cls = RX8 ∧ yX8_propsIn.cls ≠ "java/lang/invoke/MethodHandle" ∧ yX8_propsIn.cls ≠ "java/lang/invoke/VarHandle" ∧ (parseMethodDescriptor yX8_propsIn.desc).map (fun d => d.parameters.length) = some 1 := by decide +kernel
theorem gX8_196 : GoodIn TB (wsV RX8 196 RX8 yX8_boxesIn (.code yX8_boxesIn cX8_boxesIn 4 (some .int) :: TB)) := gV q1304 q1306 q58 q79 q1307
theorem hdX8_boxesIn : yX8_boxesIn.cls = RX8 ∧ yX8_boxesIn.cls ≠ "java/lang/invoke/MethodHandle" ∧ yX8_boxesIn.cls ≠ "java/lang/invoke/VarHandle" ∧ (parseMethodDescriptor yX8_boxesIn.desc).map (fun d => d.parameters.length) = some 1 := by decide +kernel
theorem gX8_199 : GoodIn TB (wsV RX8 199 RX8 yX8_cluesOn (.code yX8_cluesOn cX8_cluesOn 4 (some .int) :: TB)) := gV q1312 q1314 q59 q79 q1315
theorem hdX8_cluesOn : yX8_cluesOn.cls = RX8 ∧ yX8_cluesOn.cls ≠ "java/lang/invoke/MethodHandle" ∧ yX8_cluesOn.cls ≠ "java/lang/invoke/VarHandle" ∧ (parseMethodDescriptor yX8_cluesOn.desc).map (fun d => d.parameters.length) = some 1 := by decide +kernel
theorem gX8_202 : GoodIn TB (wsV RX8 202 RX8 yX8_locksWith (.code yX8_locksWith cX8_locksWith 5 (some .int) :: TB)) := gV q1316 q1318 q60 q79 q1319
theorem hdX8_locksWith : yX8_locksWith.cls = RX8 ∧ yX8_locksWith.cls ≠ "java/lang/invoke/MethodHandle" ∧ yX8_locksWith.cls ≠ "java/lang/invoke/VarHandle" ∧ (parseMethodDescriptor yX8_locksWith.desc).map (fun d => d.parameters.length) = some 1 := by decide +kernel
theorem gX8_205 : GoodIn TB (wsV RX8 205 RX8 yX8_heldSet (.code yX8_heldSet cX8_heldSet 3 (some .int) :: TB)) := gV q1328 q1330 q61 q79 q1331
theorem hdX8_heldSet : yX8_heldSet.cls = RX8 ∧ yX8_heldSet.cls ≠ "java/lang/invoke/MethodHandle" ∧ yX8_heldSet.cls ≠ "java/lang/invoke/VarHandle" ∧ (parseMethodDescriptor yX8_heldSet.desc).map (fun d => d.parameters.length) = some 0 := by decide +kernel
theorem gX8_208 : GoodIn TB (wsV RX8 208 RX8 yX8_startOf (.code yX8_startOf cX8_startOf 4 (some .int) :: TB)) := gV q1336 q1338 q62 q79 q1339
theorem hdX8_startOf : yX8_startOf.cls = RX8 ∧ yX8_startOf.cls ≠ "java/lang/invoke/MethodHandle" ∧ yX8_startOf.cls ≠ "java/lang/invoke/VarHandle" ∧ (parseMethodDescriptor yX8_startOf.desc).map (fun d => d.parameters.length) = some 1 := by decide +kernel
theorem gX8_211 : GoodIn TB (wsV RX8 211 RX8 yX8_faded (.code yX8_faded cX8_faded 3 (some .int) :: TB)) := gV q1348 q1350 q63 q79 q1351
theorem hdX8_faded : yX8_faded.cls = RX8 ∧ yX8_faded.cls ≠ "java/lang/invoke/MethodHandle" ∧ yX8_faded.cls ≠ "java/lang/invoke/VarHandle" ∧ (parseMethodDescriptor yX8_faded.desc).map (fun d => d.parameters.length) = some 0 := by decide +kernel
theorem gX8_217 : GoodIn TB (wsV RX8 217 RX8 yX8_put (.code yX8_put cX8_put 2 none :: TB)) := gV q1364 q1366 q66 q79 q1367
theorem hdX8_put : yX8_put.cls = RX8 ∧ yX8_put.cls ≠ "java/lang/invoke/MethodHandle" ∧ yX8_put.cls ≠ "java/lang/invoke/VarHandle" ∧ (parseMethodDescriptor yX8_put.desc).map (fun d => d.parameters.length) = some 1 := by decide +kernel
theorem gX8_220 : GoodIn TB (wsV RX8 220 RX8 yX8_putNumber (.code yX8_putNumber cX8_putNumber 3 none :: TB)) := gV q1360 q1362 q65 q79 q1363
theorem hdX8_putNumber : yX8_putNumber.cls = RX8 ∧ yX8_putNumber.cls ≠ "java/lang/invoke/MethodHandle" ∧ yX8_putNumber.cls ≠ "java/lang/invoke/VarHandle" ∧ (parseMethodDescriptor yX8_putNumber.desc).map (fun d => d.parameters.length) = some 1 := by decide +kernel
theorem gX8_223 : GoodIn TB (va_wsS RX8 223 yX8_lettersOf (.code yX8_lettersOf cX8_lettersOf 1 (some .int) :: TB)) := gS q1368 q1369 q79 q1370
theorem hsX8_lettersOf : yX8_lettersOf.cls ≠ "java/lang/invoke/MethodHandle" ∧ yX8_lettersOf.cls ≠ "java/lang/invoke/VarHandle" ∧ (parseMethodDescriptor yX8_lettersOf.desc).map (fun d => d.parameters.length) = some 1 := by decide +kernel
theorem gX8_226 : GoodIn TB (va_wsS RX8 226 yX8_wordLetter (.code yX8_wordLetter cX8_wordLetter 2 (some .int) :: TB)) := gS q1371 q1372 q79 q1373
theorem hsX8_wordLetter : yX8_wordLetter.cls ≠ "java/lang/invoke/MethodHandle" ∧ yX8_wordLetter.cls ≠ "java/lang/invoke/VarHandle" ∧ (parseMethodDescriptor yX8_wordLetter.desc).map (fun d => d.parameters.length) = some 2 := by decide +kernel
theorem gX8_229 : GoodIn TB (va_wsS RX8 229 yX8_argumentsOf (.code yX8_argumentsOf cX8_argumentsOf 1 (some .int) :: TB)) := gS q1374 q1375 q79 q1376
theorem hsX8_argumentsOf : yX8_argumentsOf.cls ≠ "java/lang/invoke/MethodHandle" ∧ yX8_argumentsOf.cls ≠ "java/lang/invoke/VarHandle" ∧ (parseMethodDescriptor yX8_argumentsOf.desc).map (fun d => d.parameters.length) = some 1 := by decide +kernel
theorem gX8_232 : GoodIn TB (wsV RX8 232 RX8 yX8_spell (.code yX8_spell cX8_spell 5 none :: TB)) := gV q1356 q1358 q64 q79 q1359
theorem hdX8_spell : yX8_spell.cls = RX8 ∧ yX8_spell.cls ≠ "java/lang/invoke/MethodHandle" ∧ yX8_spell.cls ≠ "java/lang/invoke/VarHandle" ∧ (parseMethodDescriptor yX8_spell.desc).map (fun d => d.parameters.length) = some 1 := by decide +kernel
theorem gX8_235 : GoodIn TB (wsV RX8 235 RX8 yX8_behind (.code yX8_behind cX8_behind 3 (some .int) :: TB)) := gV q1381 q1383 q67 q79 q1384
theorem hdX8_behind : yX8_behind.cls = RX8 ∧ yX8_behind.cls ≠ "java/lang/invoke/MethodHandle" ∧ yX8_behind.cls ≠ "java/lang/invoke/VarHandle" ∧ (parseMethodDescriptor yX8_behind.desc).map (fun d => d.parameters.length) = some 0 := by decide +kernel
theorem gX8_238 : GoodIn TB (wsV RX8 238 RX8 yX8_wins (.code yX8_wins cX8_wins 3 (some .int) :: TB)) := gV q1385 q1387 q68 q79 q1388
theorem hdX8_wins : yX8_wins.cls = RX8 ∧ yX8_wins.cls ≠ "java/lang/invoke/MethodHandle" ∧ yX8_wins.cls ≠ "java/lang/invoke/VarHandle" ∧ (parseMethodDescriptor yX8_wins.desc).map (fun d => d.parameters.length) = some 0 := by decide +kernel
theorem gX8_241 : GoodIn TB (wsV RX8 241 RX8 yX8_logLength (.code yX8_logLength cX8_logLength 3 (some .int) :: TB)) := gV q1389 q1391 q69 q79 q1392
theorem hdX8_logLength : yX8_logLength.cls = RX8 ∧ yX8_logLength.cls ≠ "java/lang/invoke/MethodHandle" ∧ yX8_logLength.cls ≠ "java/lang/invoke/VarHandle" ∧ (parseMethodDescriptor yX8_logLength.desc).map (fun d => d.parameters.length) = some 0 := by decide +kernel
theorem nw0 : Cond.methodLinkNest RX7 (9) yX0_init RX7 ∈ nestW := List.mem_of_getElem? (i := 0) rfl
theorem nw1 : Cond.methodLinkNest RX7 (18) yX6_init RX7 ∈ nestW := List.mem_of_getElem? (i := 1) rfl
theorem nw2 : Cond.methodLinkNest RX5 (49) yX7_put RX7 ∈ nestW := List.mem_of_getElem? (i := 2) rfl
theorem nw3 : Cond.methodLinkNest RX6 (20) yX3_init RX7 ∈ nestW := List.mem_of_getElem? (i := 3) rfl
theorem nw4 : Cond.methodLinkNest RX6 (27) yX1_init RX7 ∈ nestW := List.mem_of_getElem? (i := 4) rfl
theorem nw5 : Cond.methodLinkNest RX6 (34) yX4_init RX7 ∈ nestW := List.mem_of_getElem? (i := 5) rfl
theorem nw6 : Cond.methodLinkNest RX6 (41) yX2_init RX7 ∈ nestW := List.mem_of_getElem? (i := 6) rfl
theorem nw7 : Cond.methodLinkNest RX0 (71) yX7_at RX7 ∈ nestW := List.mem_of_getElem? (i := 7) rfl
theorem nw8 : Cond.methodLinkNest RX5 (69) yX7_at RX7 ∈ nestW := List.mem_of_getElem? (i := 8) rfl
theorem nw9 : Cond.methodLinkNest RX3 (26) yX7_put RX7 ∈ nestW := List.mem_of_getElem? (i := 9) rfl
theorem nw10 : Cond.methodLinkNest RX3 (30) yX7_at RX7 ∈ nestW := List.mem_of_getElem? (i := 10) rfl
theorem nw11 : Cond.methodLinkNest RX6 (97) yX7_at RX7 ∈ nestW := List.mem_of_getElem? (i := 11) rfl
theorem nw12 : Cond.methodLinkNest RX2 (23) yX7_put RX7 ∈ nestW := List.mem_of_getElem? (i := 12) rfl
theorem nw13 : Cond.methodLinkNest RX6 (146) yX7_asNumber RX7 ∈ nestW := List.mem_of_getElem? (i := 13) rfl
theorem nw14 : Cond.methodLinkNest RX4 (28) yX7_put RX7 ∈ nestW := List.mem_of_getElem? (i := 14) rfl
theorem nw15 : Cond.methodLinkNest RX5 (106) yX7_actMinutes RX7 ∈ nestW := List.mem_of_getElem? (i := 15) rfl
theorem nw16 : Cond.methodLinkNest RX6 (172) yX7_put RX7 ∈ nestW := List.mem_of_getElem? (i := 16) rfl
theorem nw17 : Cond.methodLinkNest RX5 (53) yX7_copyRow RX7 ∈ nestW := List.mem_of_getElem? (i := 17) rfl
theorem nw18 : Cond.methodLinkNest RX3 (22) yX7_copyRow RX7 ∈ nestW := List.mem_of_getElem? (i := 18) rfl
theorem nw19 : Cond.methodLinkNest RX4 (19) yX7_copyRow RX7 ∈ nestW := List.mem_of_getElem? (i := 19) rfl
theorem nw20 : Cond.methodLinkNest RX2 (19) yX7_at RX7 ∈ nestW := List.mem_of_getElem? (i := 20) rfl
theorem nw21 : Cond.methodLinkNest RX5 (135) yX7_stepKind RX7 ∈ nestW := List.mem_of_getElem? (i := 21) rfl
theorem nw22 : Cond.methodLinkNest RX4 (44) yX7_at RX7 ∈ nestW := List.mem_of_getElem? (i := 22) rfl
