theorem gX7_47 : GoodIn TB (va_wsS RX7 47 yX7_put (.code yX7_put cX7_put 3 none :: TB)) := gS q601 q86 q17 q87
theorem hsX7_put : yX7_put.cls ≠ "java/lang/invoke/MethodHandle" ∧ yX7_put.cls ≠ "java/lang/invoke/VarHandle" ∧ (parseMethodDescriptor yX7_put.desc).map (fun d => d.parameters.length) = some 3 := by decide +kernel
theorem gX7_54 : GoodIn TB (wsV RX7 54 RX0 yX0_findFault (.code yX0_findFault cX0_findFault 1 (some .int) :: TB)) := gV q606 q607 q608 q18 q609
theorem hdX0_findFault : yX0_findFault.cls = RX0 ∧ yX0_findFault.cls ≠ "java/lang/invoke/MethodHandle" ∧ yX0_findFault.cls ≠ "java/lang/invoke/VarHandle" ∧ (parseMethodDescriptor yX0_findFault.desc).map (fun d => d.parameters.length) = some 0 := by decide +kernel
theorem gX7_64 : GoodIn TB (wsV RX7 64 RX5 yX5_hasBox (.code yX5_hasBox cX5_hasBox 2 (some .boolean) :: TB)) := gV q451 q452 q453 q20 q454
theorem hdX5_hasBox : yX5_hasBox.cls = RX5 ∧ yX5_hasBox.cls ≠ "java/lang/invoke/MethodHandle" ∧ yX5_hasBox.cls ≠ "java/lang/invoke/VarHandle" ∧ (parseMethodDescriptor yX5_hasBox.desc).map (fun d => d.parameters.length) = some 1 := by decide +kernel
theorem gX7_71 : GoodIn TB (wsV RX7 71 RX5 yX5_hasProp (.code yX5_hasProp cX5_hasProp 2 (some .boolean) :: TB)) := gV q473 q474 q475 q20 q476
theorem hdX5_hasProp : yX5_hasProp.cls = RX5 ∧ yX5_hasProp.cls ≠ "java/lang/invoke/MethodHandle" ∧ yX5_hasProp.cls ≠ "java/lang/invoke/VarHandle" ∧ (parseMethodDescriptor yX5_hasProp.desc).map (fun d => d.parameters.length) = some 1 := by decide +kernel
theorem gX7_87 : GoodIn TB (wsV RX7 87 RX5 yX5_appendBox (.code yX5_appendBox cX5_appendBox 5 (some .int) :: TB)) := gV q684 q685 q686 q20 q687
theorem hdX5_appendBox : yX5_appendBox.cls = RX5 ∧ yX5_appendBox.cls ≠ "java/lang/invoke/MethodHandle" ∧ yX5_appendBox.cls ≠ "java/lang/invoke/VarHandle" ∧ (parseMethodDescriptor yX5_appendBox.desc).map (fun d => d.parameters.length) = some 3 := by decide +kernel
theorem gX7_94 : GoodIn TB (wsV RX7 94 RX5 yX5_appendProp (.code yX5_appendProp cX5_appendProp 3 (some .int) :: TB)) := gV q692 q693 q694 q20 q695
theorem hdX5_appendProp : yX5_appendProp.cls = RX5 ∧ yX5_appendProp.cls ≠ "java/lang/invoke/MethodHandle" ∧ yX5_appendProp.cls ≠ "java/lang/invoke/VarHandle" ∧ (parseMethodDescriptor yX5_appendProp.desc).map (fun d => d.parameters.length) = some 1 := by decide +kernel
theorem gX7_98 : GoodIn TB (wsV RX7 98 RX5 yX5_hasLock (.code yX5_hasLock cX5_hasLock 3 (some .boolean) :: TB)) := gV q465 q327 q328 q20 q329
theorem hdX5_hasLock : yX5_hasLock.cls = RX5 ∧ yX5_hasLock.cls ≠ "java/lang/invoke/MethodHandle" ∧ yX5_hasLock.cls ≠ "java/lang/invoke/VarHandle" ∧ (parseMethodDescriptor yX5_hasLock.desc).map (fun d => d.parameters.length) = some 2 := by decide +kernel
theorem gX7_105 : GoodIn TB (wsV RX7 105 RX5 yX5_appendClue (.code yX5_appendClue cX5_appendClue 5 (some .int) :: TB)) := gV q700 q701 q702 q20 q703
theorem hdX5_appendClue : yX5_appendClue.cls = RX5 ∧ yX5_appendClue.cls ≠ "java/lang/invoke/MethodHandle" ∧ yX5_appendClue.cls ≠ "java/lang/invoke/VarHandle" ∧ (parseMethodDescriptor yX5_appendClue.desc).map (fun d => d.parameters.length) = some 3 := by decide +kernel
theorem gX7_124 : GoodIn TB (va_wsS RX7 124 yX7_isGroupSize (.code yX7_isGroupSize cX7_isGroupSize 1 (some .boolean) :: TB)) := gS q376 q377 q17 q378
theorem hsX7_isGroupSize : yX7_isGroupSize.cls ≠ "java/lang/invoke/MethodHandle" ∧ yX7_isGroupSize.cls ≠ "java/lang/invoke/VarHandle" ∧ (parseMethodDescriptor yX7_isGroupSize.desc).map (fun d => d.parameters.length) = some 1 := by decide +kernel
theorem gX7_136 : GoodIn TB (va_wsS RX7 136 yX7_at (.code yX7_at cX7_at 2 (some .int) :: TB)) := gS q455 q320 q17 q321
theorem hsX7_at : yX7_at.cls ≠ "java/lang/invoke/MethodHandle" ∧ yX7_at.cls ≠ "java/lang/invoke/VarHandle" ∧ (parseMethodDescriptor yX7_at.desc).map (fun d => d.parameters.length) = some 2 := by decide +kernel
theorem gX7_140 : GoodIn TB (wsV RX7 140 RX3 yX3_append (.code yX3_append cX3_append 3 none :: TB)) := gV q870 q871 q872 q21 q873
theorem hdX3_append : yX3_append.cls = RX3 ∧ yX3_append.cls ≠ "java/lang/invoke/MethodHandle" ∧ yX3_append.cls ≠ "java/lang/invoke/VarHandle" ∧ (parseMethodDescriptor yX3_append.desc).map (fun d => d.parameters.length) = some 2 := by decide +kernel
theorem gX7_144 : GoodIn TB (wsV RX7 144 RX3 yX3_hasGroup (.code yX3_hasGroup cX3_hasGroup 2 (some .boolean) :: TB)) := gV q566 q567 q568 q21 q569
theorem hdX3_hasGroup : yX3_hasGroup.cls = RX3 ∧ yX3_hasGroup.cls ≠ "java/lang/invoke/MethodHandle" ∧ yX3_hasGroup.cls ≠ "java/lang/invoke/VarHandle" ∧ (parseMethodDescriptor yX3_hasGroup.desc).map (fun d => d.parameters.length) = some 1 := by decide +kernel
theorem gX7_147 : GoodIn TB (wsV RX7 147 RX3 yX3_remove (.code yX3_remove cX3_remove 3 none :: TB)) := gV q915 q884 q885 q21 q886
theorem hdX3_remove : yX3_remove.cls = RX3 ∧ yX3_remove.cls ≠ "java/lang/invoke/MethodHandle" ∧ yX3_remove.cls ≠ "java/lang/invoke/VarHandle" ∧ (parseMethodDescriptor yX3_remove.desc).map (fun d => d.parameters.length) = some 1 := by decide +kernel
theorem gX7_151 : GoodIn TB (wsV RX7 151 RX5 yX5_isOpen (.code yX5_isOpen cX5_isOpen 2 (some .boolean) :: TB)) := gV q864 q391 q392 q20 q393
theorem hdX5_isOpen : yX5_isOpen.cls = RX5 ∧ yX5_isOpen.cls ≠ "java/lang/invoke/MethodHandle" ∧ yX5_isOpen.cls ≠ "java/lang/invoke/VarHandle" ∧ (parseMethodDescriptor yX5_isOpen.desc).map (fun d => d.parameters.length) = some 1 := by decide +kernel
theorem gX7_163 : GoodIn TB (wsV RX7 163 RX6 yX6_beginGame (.code yX6_beginGame cX6_beginGame 1 (some .int) :: TB)) := gV q879 q880 q881 q19 q882
theorem hdX6_beginGame : yX6_beginGame.cls = RX6 ∧ yX6_beginGame.cls ≠ "java/lang/invoke/MethodHandle" ∧ yX6_beginGame.cls ≠ "java/lang/invoke/VarHandle" ∧ (parseMethodDescriptor yX6_beginGame.desc).map (fun d => d.parameters.length) = some 0 := by decide +kernel
theorem gX7_166 : GoodIn TB (wsV RX7 166 RX5 yX5_isHeld (.code yX5_isHeld cX5_isHeld 2 (some .boolean) :: TB)) := gV q477 q363 q364 q20 q365
theorem hdX5_isHeld : yX5_isHeld.cls = RX5 ∧ yX5_isHeld.cls ≠ "java/lang/invoke/MethodHandle" ∧ yX5_isHeld.cls ≠ "java/lang/invoke/VarHandle" ∧ (parseMethodDescriptor yX5_isHeld.desc).map (fun d => d.parameters.length) = some 1 := by decide +kernel
theorem gX7_169 : GoodIn TB (wsV RX7 169 RX5 yX5_propAtHand (.code yX5_propAtHand cX5_propAtHand 2 (some .boolean) :: TB)) := gV q478 q479 q480 q20 q481
theorem hdX5_propAtHand : yX5_propAtHand.cls = RX5 ∧ yX5_propAtHand.cls ≠ "java/lang/invoke/MethodHandle" ∧ yX5_propAtHand.cls ≠ "java/lang/invoke/VarHandle" ∧ (parseMethodDescriptor yX5_propAtHand.desc).map (fun d => d.parameters.length) = some 1 := by decide +kernel
theorem gX7_172 : GoodIn TB (wsV RX7 172 RX5 yX5_heldProps (.code yX5_heldProps cX5_heldProps 1 (some .int) :: TB)) := gV q715 q351 q352 q20 q353
theorem hdX5_heldProps : yX5_heldProps.cls = RX5 ∧ yX5_heldProps.cls ≠ "java/lang/invoke/MethodHandle" ∧ yX5_heldProps.cls ≠ "java/lang/invoke/VarHandle" ∧ (parseMethodDescriptor yX5_heldProps.desc).map (fun d => d.parameters.length) = some 0 := by decide +kernel
theorem gX7_178 : GoodIn TB (va_wsS RX7 178 yX7_actMinutes (.code yX7_actMinutes cX7_actMinutes 2 (some .int) :: TB)) := gS q716 q401 q17 q402
theorem hsX7_actMinutes : yX7_actMinutes.cls ≠ "java/lang/invoke/MethodHandle" ∧ yX7_actMinutes.cls ≠ "java/lang/invoke/VarHandle" ∧ (parseMethodDescriptor yX7_actMinutes.desc).map (fun d => d.parameters.length) = some 2 := by decide +kernel
theorem gX7_182 : GoodIn TB (wsV RX7 182 RX6 yX6_hasTimeFor (.code yX6_hasTimeFor cX6_hasTimeFor 2 (some .boolean) :: TB)) := gV q717 q718 q719 q19 q720
theorem hdX6_hasTimeFor : yX6_hasTimeFor.cls = RX6 ∧ yX6_hasTimeFor.cls ≠ "java/lang/invoke/MethodHandle" ∧ yX6_hasTimeFor.cls ≠ "java/lang/invoke/VarHandle" ∧ (parseMethodDescriptor yX6_hasTimeFor.desc).map (fun d => d.parameters.length) = some 1 := by decide +kernel
theorem gX7_185 : GoodIn TB (wsV RX7 185 RX6 yX6_runOutOfTime (.code yX6_runOutOfTime cX6_runOutOfTime 1 (some .int) :: TB)) := gV q722 q723 q724 q19 q725
theorem hdX6_runOutOfTime : yX6_runOutOfTime.cls = RX6 ∧ yX6_runOutOfTime.cls ≠ "java/lang/invoke/MethodHandle" ∧ yX6_runOutOfTime.cls ≠ "java/lang/invoke/VarHandle" ∧ (parseMethodDescriptor yX6_runOutOfTime.desc).map (fun d => d.parameters.length) = some 0 := by decide +kernel
theorem gX7_190 : GoodIn TB (wsV RX7 190 RX6 yX6_note (.code yX6_note cX6_note 4 none :: TB)) := gV q778 q779 q780 q19 q781
theorem hdX6_note : yX6_note.cls = RX6 ∧ yX6_note.cls ≠ "java/lang/invoke/MethodHandle" ∧ yX6_note.cls ≠ "java/lang/invoke/VarHandle" ∧ (parseMethodDescriptor yX6_note.desc).map (fun d => d.parameters.length) = some 3 := by decide +kernel
theorem gX7_197 : GoodIn TB (wsV RX7 197 RX6 yX6_pass (.code yX6_pass cX6_pass 3 none :: TB)) := gV q782 q752 q753 q19 q754
theorem hdX6_pass : yX6_pass.cls = RX6 ∧ yX6_pass.cls ≠ "java/lang/invoke/MethodHandle" ∧ yX6_pass.cls ≠ "java/lang/invoke/VarHandle" ∧ (parseMethodDescriptor yX6_pass.desc).map (fun d => d.parameters.length) = some 1 := by decide +kernel
theorem gX7_200 : GoodIn TB (wsV RX7 200 RX5 yX5_outermostClosed (.code yX5_outermostClosed cX5_outermostClosed 5 (some .int) :: TB)) := gV q787 q323 q324 q20 q325
theorem hdX5_outermostClosed : yX5_outermostClosed.cls = RX5 ∧ yX5_outermostClosed.cls ≠ "java/lang/invoke/MethodHandle" ∧ yX5_outermostClosed.cls ≠ "java/lang/invoke/VarHandle" ∧ (parseMethodDescriptor yX5_outermostClosed.desc).map (fun d => d.parameters.length) = some 1 := by decide +kernel
theorem gX7_205 : GoodIn TB (wsV RX7 205 RX5 yX5_canBeOpened (.code yX5_canBeOpened cX5_canBeOpened 2 (some .boolean) :: TB)) := gV q793 q794 q795 q20 q796
theorem hdX5_canBeOpened : yX5_canBeOpened.cls = RX5 ∧ yX5_canBeOpened.cls ≠ "java/lang/invoke/MethodHandle" ∧ yX5_canBeOpened.cls ≠ "java/lang/invoke/VarHandle" ∧ (parseMethodDescriptor yX5_canBeOpened.desc).map (fun d => d.parameters.length) = some 1 := by decide +kernel
theorem gX7_218 : GoodIn TB (wsV RX7 218 RX6 yX6_endGame (.code yX6_endGame cX6_endGame 2 none :: TB)) := gV q799 q760 q761 q19 q762
theorem hdX6_endGame : yX6_endGame.cls = RX6 ∧ yX6_endGame.cls ≠ "java/lang/invoke/MethodHandle" ∧ yX6_endGame.cls ≠ "java/lang/invoke/VarHandle" ∧ (parseMethodDescriptor yX6_endGame.desc).map (fun d => d.parameters.length) = some 1 := by decide +kernel
theorem gX7_222 : GoodIn TB (wsV RX7 222 RX5 yX5_hasClue (.code yX5_hasClue cX5_hasClue 2 (some .boolean) :: TB)) := gV q550 q551 q552 q20 q553
theorem hdX5_hasClue : yX5_hasClue.cls = RX5 ∧ yX5_hasClue.cls ≠ "java/lang/invoke/MethodHandle" ∧ yX5_hasClue.cls ≠ "java/lang/invoke/VarHandle" ∧ (parseMethodDescriptor yX5_hasClue.desc).map (fun d => d.parameters.length) = some 1 := by decide +kernel
theorem gX7_225 : GoodIn TB (wsV RX7 225 RX5 yX5_clueAtHand (.code yX5_clueAtHand cX5_clueAtHand 2 (some .boolean) :: TB)) := gV q558 q339 q340 q20 q341
theorem hdX5_clueAtHand : yX5_clueAtHand.cls = RX5 ∧ yX5_clueAtHand.cls ≠ "java/lang/invoke/MethodHandle" ∧ yX5_clueAtHand.cls ≠ "java/lang/invoke/VarHandle" ∧ (parseMethodDescriptor yX5_clueAtHand.desc).map (fun d => d.parameters.length) = some 1 := by decide +kernel
theorem gX7_231 : GoodIn TB (wsV RX7 231 RX5 yX5_readingMinutes (.code yX5_readingMinutes cX5_readingMinutes 2 (some .int) :: TB)) := gV q804 q407 q408 q20 q409
theorem hdX5_readingMinutes : yX5_readingMinutes.cls = RX5 ∧ yX5_readingMinutes.cls ≠ "java/lang/invoke/MethodHandle" ∧ yX5_readingMinutes.cls ≠ "java/lang/invoke/VarHandle" ∧ (parseMethodDescriptor yX5_readingMinutes.desc).map (fun d => d.parameters.length) = some 1 := by decide +kernel
theorem gX7_236 : GoodIn TB (wsV RX7 236 RX5 yX5_learnFromClue (.code yX5_learnFromClue cX5_learnFromClue 2 none :: TB)) := gV q806 q415 q416 q20 q417
theorem hdX5_learnFromClue : yX5_learnFromClue.cls = RX5 ∧ yX5_learnFromClue.cls ≠ "java/lang/invoke/MethodHandle" ∧ yX5_learnFromClue.cls ≠ "java/lang/invoke/VarHandle" ∧ (parseMethodDescriptor yX5_learnFromClue.desc).map (fun d => d.parameters.length) = some 1 := by decide +kernel
theorem gX7_239 : GoodIn TB (wsV RX7 239 RX5 yX5_clueDigit (.code yX5_clueDigit cX5_clueDigit 3 (some .int) :: TB)) := gV q554 q555 q556 q20 q557
theorem hdX5_clueDigit : yX5_clueDigit.cls = RX5 ∧ yX5_clueDigit.cls ≠ "java/lang/invoke/MethodHandle" ∧ yX5_clueDigit.cls ≠ "java/lang/invoke/VarHandle" ∧ (parseMethodDescriptor yX5_clueDigit.desc).map (fun d => d.parameters.length) = some 1 := by decide +kernel
theorem gX7_244 : GoodIn TB (wsV RX7 244 RX6 yX6_minutesLeft (.code yX6_minutesLeft cX6_minutesLeft 1 (some .int) :: TB)) := gV q494 q495 q496 q19 q497
theorem hdX6_minutesLeft : yX6_minutesLeft.cls = RX6 ∧ yX6_minutesLeft.cls ≠ "java/lang/invoke/MethodHandle" ∧ yX6_minutesLeft.cls ≠ "java/lang/invoke/VarHandle" ∧ (parseMethodDescriptor yX6_minutesLeft.desc).map (fun d => d.parameters.length) = some 0 := by decide +kernel
theorem gX7_250 : GoodIn TB (wsV RX7 250 RX5 yX5_stepFor (.code yX5_stepFor cX5_stepFor 6 (some .int) :: TB)) := gV q315 q316 q317 q20 q318
theorem hdX5_stepFor : yX5_stepFor.cls = RX5 ∧ yX5_stepFor.cls ≠ "java/lang/invoke/MethodHandle" ∧ yX5_stepFor.cls ≠ "java/lang/invoke/VarHandle" ∧ (parseMethodDescriptor yX5_stepFor.desc).map (fun d => d.parameters.length) = some 1 := by decide +kernel
theorem gX7_255 : GoodIn TB (va_wsS RX7 255 yX7_toldStep (.code yX7_toldStep cX7_toldStep 1 (some .int) :: TB)) := gS q366 q367 q17 q368
theorem hsX7_toldStep : yX7_toldStep.cls ≠ "java/lang/invoke/MethodHandle" ∧ yX7_toldStep.cls ≠ "java/lang/invoke/VarHandle" ∧ (parseMethodDescriptor yX7_toldStep.desc).map (fun d => d.parameters.length) = some 1 := by decide +kernel
theorem gX7_258 : GoodIn TB (va_wsS RX7 258 yX7_stepKind (.code yX7_stepKind cX7_stepKind 1 (some .int) :: TB)) := gS q369 q370 q17 q371
theorem hsX7_stepKind : yX7_stepKind.cls ≠ "java/lang/invoke/MethodHandle" ∧ yX7_stepKind.cls ≠ "java/lang/invoke/VarHandle" ∧ (parseMethodDescriptor yX7_stepKind.desc).map (fun d => d.parameters.length) = some 1 := by decide +kernel
theorem gX7_261 : GoodIn TB (wsV RX7 261 RX5 yX5_learnDigit (.code yX5_learnDigit cX5_learnDigit 3 none :: TB)) := gV q812 q419 q420 q20 q421
theorem hdX5_learnDigit : yX5_learnDigit.cls = RX5 ∧ yX5_learnDigit.cls ≠ "java/lang/invoke/MethodHandle" ∧ yX5_learnDigit.cls ≠ "java/lang/invoke/VarHandle" ∧ (parseMethodDescriptor yX5_learnDigit.desc).map (fun d => d.parameters.length) = some 2 := by decide +kernel
theorem gX7_264 : GoodIn TB (wsV RX7 264 RX6 yX6_gameMinute (.code yX6_gameMinute cX6_gameMinute 1 (some .int) :: TB)) := gV q822 q727 q728 q19 q729
theorem hdX6_gameMinute : yX6_gameMinute.cls = RX6 ∧ yX6_gameMinute.cls ≠ "java/lang/invoke/MethodHandle" ∧ yX6_gameMinute.cls ≠ "java/lang/invoke/VarHandle" ∧ (parseMethodDescriptor yX6_gameMinute.desc).map (fun d => d.parameters.length) = some 0 := by decide +kernel
theorem gX7_275 : GoodIn TB (wsV RX7 275 RX5 yX5_openBoxes (.code yX5_openBoxes cX5_openBoxes 3 (some .int) :: TB)) := gV q510 q511 q512 q20 q513
theorem hdX5_openBoxes : yX5_openBoxes.cls = RX5 ∧ yX5_openBoxes.cls ≠ "java/lang/invoke/MethodHandle" ∧ yX5_openBoxes.cls ≠ "java/lang/invoke/VarHandle" ∧ (parseMethodDescriptor yX5_openBoxes.desc).map (fun d => d.parameters.length) = some 0 := by decide +kernel
theorem gX7_278 : GoodIn TB (wsV RX7 278 RX5 yX5_inkLack (.code yX5_inkLack cX5_inkLack 2 (some .int) :: TB)) := gV q905 q530 q531 q20 q532
theorem hdX5_inkLack : yX5_inkLack.cls = RX5 ∧ yX5_inkLack.cls ≠ "java/lang/invoke/MethodHandle" ∧ yX5_inkLack.cls ≠ "java/lang/invoke/VarHandle" ∧ (parseMethodDescriptor yX5_inkLack.desc).map (fun d => d.parameters.length) = some 1 := by decide +kernel
theorem gX7_281 : GoodIn TB (wsV RX7 281 RX6 yX6_refill (.code yX6_refill cX6_refill 2 none :: TB)) := gV q906 q848 q849 q19 q850
theorem hdX6_refill : yX6_refill.cls = RX6 ∧ yX6_refill.cls ≠ "java/lang/invoke/MethodHandle" ∧ yX6_refill.cls ≠ "java/lang/invoke/VarHandle" ∧ (parseMethodDescriptor yX6_refill.desc).map (fun d => d.parameters.length) = some 1 := by decide +kernel
theorem gX7_284 : GoodIn TB (wsV RX7 284 RX6 yX6_resetMinutes (.code yX6_resetMinutes cX6_resetMinutes 1 (some .int) :: TB)) := gV q518 q519 q520 q19 q521
theorem hdX6_resetMinutes : yX6_resetMinutes.cls = RX6 ∧ yX6_resetMinutes.cls ≠ "java/lang/invoke/MethodHandle" ∧ yX6_resetMinutes.cls ≠ "java/lang/invoke/VarHandle" ∧ (parseMethodDescriptor yX6_resetMinutes.desc).map (fun d => d.parameters.length) = some 0 := by decide +kernel
theorem gX7_287 : GoodIn TB (wsV RX7 287 RX6 yX6_bringToOrder (.code yX6_bringToOrder cX6_bringToOrder 3 none :: TB)) := gV q835 q836 q837 q19 q838
theorem hdX6_bringToOrder : yX6_bringToOrder.cls = RX6 ∧ yX6_bringToOrder.cls ≠ "java/lang/invoke/MethodHandle" ∧ yX6_bringToOrder.cls ≠ "java/lang/invoke/VarHandle" ∧ (parseMethodDescriptor yX6_bringToOrder.desc).map (fun d => d.parameters.length) = some 0 := by decide +kernel
theorem gX7_290 : GoodIn TB (va_wsS RX7 290 yX7_isSlot (.code yX7_isSlot cX7_isSlot 1 (some .boolean) :: TB)) := gS q920 q921 q17 q922
theorem hsX7_isSlot : yX7_isSlot.cls ≠ "java/lang/invoke/MethodHandle" ∧ yX7_isSlot.cls ≠ "java/lang/invoke/VarHandle" ∧ (parseMethodDescriptor yX7_isSlot.desc).map (fun d => d.parameters.length) = some 1 := by decide +kernel
theorem gX7_293 : GoodIn TB (wsV RX7 293 RX7 yX7_slotState (.code yX7_slotState cX7_slotState 2 (some (.object "ResetRooms$State")) :: TB)) := gV q923 q925 q15 q17 q926
theorem hdX7_slotState : yX7_slotState.cls = RX7 ∧ yX7_slotState.cls ≠ "java/lang/invoke/MethodHandle" ∧ yX7_slotState.cls ≠ "java/lang/invoke/VarHandle" ∧ (parseMethodDescriptor yX7_slotState.desc).map (fun d => d.parameters.length) = some 1 := by decide +kernel
theorem gX7_297 : GoodIn TB (wsV RX7 297 RX6 yX6_copyFrom (.code yX6_copyFrom cX6_copyFrom 2 none :: TB)) := gV q927 q928 q929 q19 q930
theorem hdX6_copyFrom : yX6_copyFrom.cls = RX6 ∧ yX6_copyFrom.cls ≠ "java/lang/invoke/MethodHandle" ∧ yX6_copyFrom.cls ≠ "java/lang/invoke/VarHandle" ∧ (parseMethodDescriptor yX6_copyFrom.desc).map (fun d => d.parameters.length) = some 1 := by decide +kernel
theorem gX7_305 : GoodIn TB (wsV RX7 305 RX5 yX5_boxAtHand (.code yX5_boxAtHand cX5_boxAtHand 2 (some .boolean) :: TB)) := gV q456 q457 q458 q20 q459
theorem hdX5_boxAtHand : yX5_boxAtHand.cls = RX5 ∧ yX5_boxAtHand.cls ≠ "java/lang/invoke/MethodHandle" ∧ yX5_boxAtHand.cls ≠ "java/lang/invoke/VarHandle" ∧ (parseMethodDescriptor yX5_boxAtHand.desc).map (fun d => d.parameters.length) = some 1 := by decide +kernel
theorem gX7_308 : GoodIn TB (va_wsS RX7 308 yX7_asNumber (.code yX7_asNumber cX7_asNumber 1 (some .int) :: TB)) := gS q437 q438 q17 q439
theorem hsX7_asNumber : yX7_asNumber.cls ≠ "java/lang/invoke/MethodHandle" ∧ yX7_asNumber.cls ≠ "java/lang/invoke/VarHandle" ∧ (parseMethodDescriptor yX7_asNumber.desc).map (fun d => d.parameters.length) = some 1 := by decide +kernel
theorem gX7_312 : GoodIn TB (wsV RX7 312 RX5 yX5_propsIn (.code yX5_propsIn cX5_propsIn 4 (some .int) :: TB)) := gV q460 q355 q356 q20 q357
theorem hdX5_propsIn : yX5_propsIn.cls = RX5 ∧ yX5_propsIn.cls ≠ "java/lang/invoke/MethodHandle" ∧ yX5_propsIn.cls ≠ "java/lang/invoke/VarHandle" ∧ (parseMethodDescriptor yX5_propsIn.desc).map (fun d => d.parameters.length) = some 1 := by decide +kernel
theorem gX7_315 : GoodIn TB (wsV RX7 315 RX5 yX5_boxesIn (.code yX5_boxesIn cX5_boxesIn 4 (some .int) :: TB)) := gV q461 q462 q463 q20 q464
theorem hdX5_boxesIn : yX5_boxesIn.cls = RX5 ∧ yX5_boxesIn.cls ≠ "java/lang/invoke/MethodHandle" ∧ yX5_boxesIn.cls ≠ "java/lang/invoke/VarHandle" ∧ (parseMethodDescriptor yX5_boxesIn.desc).map (fun d => d.parameters.length) = some 1 := by decide +kernel
theorem gX7_321 : GoodIn TB (wsV RX7 321 RX5 yX5_cluesOn (.code yX5_cluesOn cX5_cluesOn 4 (some .int) :: TB)) := gV q482 q483 q484 q20 q485
theorem hdX5_cluesOn : yX5_cluesOn.cls = RX5 ∧ yX5_cluesOn.cls ≠ "java/lang/invoke/MethodHandle" ∧ yX5_cluesOn.cls ≠ "java/lang/invoke/VarHandle" ∧ (parseMethodDescriptor yX5_cluesOn.desc).map (fun d => d.parameters.length) = some 1 := by decide +kernel
theorem gX7_324 : GoodIn TB (wsV RX7 324 RX5 yX5_locksWith (.code yX5_locksWith cX5_locksWith 4 (some .int) :: TB)) := gV q486 q487 q488 q20 q489
theorem hdX5_locksWith : yX5_locksWith.cls = RX5 ∧ yX5_locksWith.cls ≠ "java/lang/invoke/MethodHandle" ∧ yX5_locksWith.cls ≠ "java/lang/invoke/VarHandle" ∧ (parseMethodDescriptor yX5_locksWith.desc).map (fun d => d.parameters.length) = some 1 := by decide +kernel
theorem gX7_342 : GoodIn TB (wsV RX7 342 RX5 yX5_heldBits (.code yX5_heldBits cX5_heldBits 3 (some .int) :: TB)) := gV q498 q499 q500 q20 q501
theorem hdX5_heldBits : yX5_heldBits.cls = RX5 ∧ yX5_heldBits.cls ≠ "java/lang/invoke/MethodHandle" ∧ yX5_heldBits.cls ≠ "java/lang/invoke/VarHandle" ∧ (parseMethodDescriptor yX5_heldBits.desc).map (fun d => d.parameters.length) = some 0 := by decide +kernel
theorem gX7_347 : GoodIn TB (wsV RX7 347 RX6 yX6_latestStart (.code yX6_latestStart cX6_latestStart 4 (some .int) :: TB)) := gV q570 q571 q572 q19 q573
theorem hdX6_latestStart : yX6_latestStart.cls = RX6 ∧ yX6_latestStart.cls ≠ "java/lang/invoke/MethodHandle" ∧ yX6_latestStart.cls ≠ "java/lang/invoke/VarHandle" ∧ (parseMethodDescriptor yX6_latestStart.desc).map (fun d => d.parameters.length) = some 1 := by decide +kernel
theorem gX7_353 : GoodIn TB (wsV RX7 353 RX5 yX5_copyFrom (.code yX5_copyFrom cX5_copyFrom 2 none :: TB)) := gV q379 q380 q381 q20 q382
theorem hdX5_copyFrom : yX5_copyFrom.cls = RX5 ∧ yX5_copyFrom.cls ≠ "java/lang/invoke/MethodHandle" ∧ yX5_copyFrom.cls ≠ "java/lang/invoke/VarHandle" ∧ (parseMethodDescriptor yX5_copyFrom.desc).map (fun d => d.parameters.length) = some 1 := by decide +kernel
theorem gX7_356 : GoodIn TB (wsV RX7 356 RX5 yX5_minutesToExit (.code yX5_minutesToExit cX5_minutesToExit 4 (some .int) :: TB)) := gV q386 q387 q388 q20 q389
theorem hdX5_minutesToExit : yX5_minutesToExit.cls = RX5 ∧ yX5_minutesToExit.cls ≠ "java/lang/invoke/MethodHandle" ∧ yX5_minutesToExit.cls ≠ "java/lang/invoke/VarHandle" ∧ (parseMethodDescriptor yX5_minutesToExit.desc).map (fun d => d.parameters.length) = some 0 := by decide +kernel
theorem gX7_359 : GoodIn TB (wsV RX7 359 RX5 yX5_propsAway (.code yX5_propsAway cX5_propsAway 3 (some .int) :: TB)) := gV q506 q507 q508 q20 q509
theorem hdX5_propsAway : yX5_propsAway.cls = RX5 ∧ yX5_propsAway.cls ≠ "java/lang/invoke/MethodHandle" ∧ yX5_propsAway.cls ≠ "java/lang/invoke/VarHandle" ∧ (parseMethodDescriptor yX5_propsAway.desc).map (fun d => d.parameters.length) = some 0 := by decide +kernel
theorem gX7_362 : GoodIn TB (wsV RX7 362 RX5 yX5_paleClues (.code yX5_paleClues cX5_paleClues 3 (some .int) :: TB)) := gV q514 q515 q516 q20 q517
theorem hdX5_paleClues : yX5_paleClues.cls = RX5 ∧ yX5_paleClues.cls ≠ "java/lang/invoke/MethodHandle" ∧ yX5_paleClues.cls ≠ "java/lang/invoke/VarHandle" ∧ (parseMethodDescriptor yX5_paleClues.desc).map (fun d => d.parameters.length) = some 0 := by decide +kernel
theorem gX7_365 : GoodIn TB (wsV RX7 365 RX6 yX6_resetPaint (.code yX6_resetPaint cX6_resetPaint 4 (some .int) :: TB)) := gV q539 q540 q541 q19 q542
theorem hdX6_resetPaint : yX6_resetPaint.cls = RX6 ∧ yX6_resetPaint.cls ≠ "java/lang/invoke/MethodHandle" ∧ yX6_resetPaint.cls ≠ "java/lang/invoke/VarHandle" ∧ (parseMethodDescriptor yX6_resetPaint.desc).map (fun d => d.parameters.length) = some 0 := by decide +kernel
theorem gX7_376 : GoodIn TB (wsV RX7 376 RX3 yX3_waitingBefore (.code yX3_waitingBefore cX3_waitingBefore 4 (some .int) :: TB)) := gV q427 q428 q429 q21 q430
theorem hdX3_waitingBefore : yX3_waitingBefore.cls = RX3 ∧ yX3_waitingBefore.cls ≠ "java/lang/invoke/MethodHandle" ∧ yX3_waitingBefore.cls ≠ "java/lang/invoke/VarHandle" ∧ (parseMethodDescriptor yX3_waitingBefore.desc).map (fun d => d.parameters.length) = some 1 := by decide +kernel
theorem gX7_379 : GoodIn TB (wsV RX7 379 RX4 yX4_wins (.code yX4_wins cX4_wins 3 (some .int) :: TB)) := gV q432 q433 q434 q23 q435
theorem hdX4_wins : yX4_wins.cls = RX4 ∧ yX4_wins.cls ≠ "java/lang/invoke/MethodHandle" ∧ yX4_wins.cls ≠ "java/lang/invoke/VarHandle" ∧ (parseMethodDescriptor yX4_wins.desc).map (fun d => d.parameters.length) = some 0 := by decide +kernel
theorem gX0_19 : GoodIn TB (wsV RX0 19 RX0 yX0_matchesDigits (.code yX0_matchesDigits cX0_matchesDigits 4 (some .boolean) :: TB)) := gV q610 q612 q7 q18 q613
theorem hdX0_matchesDigits : yX0_matchesDigits.cls = RX0 ∧ yX0_matchesDigits.cls ≠ "java/lang/invoke/MethodHandle" ∧ yX0_matchesDigits.cls ≠ "java/lang/invoke/VarHandle" ∧ (parseMethodDescriptor yX0_matchesDigits.desc).map (fun d => d.parameters.length) = some 2 := by decide +kernel
theorem gX0_31 : GoodIn TB (wsV RX0 31 RX0 yX0_matchesWord (.code yX0_matchesWord cX0_matchesWord 3 (some .boolean) :: TB)) := gV q624 q626 q10 q18 q627
theorem hdX0_matchesWord : yX0_matchesWord.cls = RX0 ∧ yX0_matchesWord.cls ≠ "java/lang/invoke/MethodHandle" ∧ yX0_matchesWord.cls ≠ "java/lang/invoke/VarHandle" ∧ (parseMethodDescriptor yX0_matchesWord.desc).map (fun d => d.parameters.length) = some 1 := by decide +kernel
theorem gX0_35 : GoodIn TB (wsV RX0 35 RX0 yX0_matchesLock (.code yX0_matchesLock cX0_matchesLock 1 (some .boolean) :: TB)) := gV q676 q678 q11 q18 q679
theorem hdX0_matchesLock : yX0_matchesLock.cls = RX0 ∧ yX0_matchesLock.cls ≠ "java/lang/invoke/MethodHandle" ∧ yX0_matchesLock.cls ≠ "java/lang/invoke/VarHandle" ∧ (parseMethodDescriptor yX0_matchesLock.desc).map (fun d => d.parameters.length) = some 0 := by decide +kernel
theorem gX0_45 : GoodIn TB (wsV RX0 45 RX0 yX0_signHere (.code yX0_signHere cX0_signHere 1 (some .int) :: TB)) := gV q618 q620 q9 q18 q621
theorem hdX0_signHere : yX0_signHere.cls = RX0 ∧ yX0_signHere.cls ≠ "java/lang/invoke/MethodHandle" ∧ yX0_signHere.cls ≠ "java/lang/invoke/VarHandle" ∧ (parseMethodDescriptor yX0_signHere.desc).map (fun d => d.parameters.length) = some 0 := by decide +kernel
theorem gX0_60 : GoodIn TB (wsV RX0 60 RX0 yX0_digitHere (.code yX0_digitHere cX0_digitHere 1 (some .boolean) :: TB)) := gV q614 q616 q8 q18 q617
theorem hdX0_digitHere : yX0_digitHere.cls = RX0 ∧ yX0_digitHere.cls ≠ "java/lang/invoke/MethodHandle" ∧ yX0_digitHere.cls ≠ "java/lang/invoke/VarHandle" ∧ (parseMethodDescriptor yX0_digitHere.desc).map (fun d => d.parameters.length) = some 0 := by decide +kernel
theorem gX0_63 : GoodIn TB (wsV RX0 63 RJ0 yJ0_length_8abf5 (.code yJ0_length_8abf5 cJ0_length_8abf5 1 (some .int) :: TB)) := gV q628 q629 q630 q26 q631
theorem hdJ0_length_8abf5 : yJ0_length_8abf5.cls = RJ0 ∧ yJ0_length_8abf5.cls ≠ "java/lang/invoke/MethodHandle" ∧ yJ0_length_8abf5.cls ≠ "java/lang/invoke/VarHandle" ∧ (parseMethodDescriptor yJ0_length_8abf5.desc).map (fun d => d.parameters.length) = some 0 := by decide +kernel
theorem gX0_67 : GoodIn TB (wsV RX0 67 RJ0 yJ0_charAt_5068e (.code yJ0_charAt_5068e cJ0_charAt_5068e 2 (some .char) :: TB)) := gV q638 q639 q640 q26 q641
theorem hdJ0_charAt_5068e : yJ0_charAt_5068e.cls = RJ0 ∧ yJ0_charAt_5068e.cls ≠ "java/lang/invoke/MethodHandle" ∧ yJ0_charAt_5068e.cls ≠ "java/lang/invoke/VarHandle" ∧ (parseMethodDescriptor yJ0_charAt_5068e.desc).map (fun d => d.parameters.length) = some 1 := by decide +kernel
theorem gcX7_at : GoodIn TB (.code yX7_at cX7_at 2 (some .int) :: TB) := gC q321
theorem gcX7_put : GoodIn TB (.code yX7_put cX7_put 3 none :: TB) := gC q87
theorem gX2_27 : GoodIn TB (wsV RX2 27 RX2 yX2_appendNumber (.code yX2_appendNumber cX2_appendNumber 3 none :: TB)) := gV q735 q737 q12 q24 q738
theorem hdX2_appendNumber : yX2_appendNumber.cls = RX2 ∧ yX2_appendNumber.cls ≠ "java/lang/invoke/MethodHandle" ∧ yX2_appendNumber.cls ≠ "java/lang/invoke/VarHandle" ∧ (parseMethodDescriptor yX2_appendNumber.desc).map (fun d => d.parameters.length) = some 1 := by decide +kernel
theorem gX2_31 : GoodIn TB (wsV RX2 31 RX2 yX2_appendSign (.code yX2_appendSign cX2_appendSign 2 none :: TB)) := gV q740 q742 q13 q24 q743
theorem hdX2_appendSign : yX2_appendSign.cls = RX2 ∧ yX2_appendSign.cls ≠ "java/lang/invoke/MethodHandle" ∧ yX2_appendSign.cls ≠ "java/lang/invoke/VarHandle" ∧ (parseMethodDescriptor yX2_appendSign.desc).map (fun d => d.parameters.length) = some 1 := by decide +kernel
theorem gX2_34 : GoodIn TB (wsV RX2 34 RJ0 yJ0_length_8abf5 (.code yJ0_length_8abf5 cJ0_length_8abf5 1 (some .int) :: TB)) := gV q745 q629 q630 q26 q631
theorem gX2_39 : GoodIn TB (wsV RX2 39 RJ0 yJ0_charAt_5068e (.code yJ0_charAt_5068e cJ0_charAt_5068e 2 (some .char) :: TB)) := gV q746 q639 q640 q26 q641
theorem gX2_43 : GoodIn TB (wsV RX2 43 RX2 yX2_appendArgument (.code yX2_appendArgument cX2_appendArgument 2 none :: TB)) := gV q747 q749 q14 q24 q750
theorem hdX2_appendArgument : yX2_appendArgument.cls = RX2 ∧ yX2_appendArgument.cls ≠ "java/lang/invoke/MethodHandle" ∧ yX2_appendArgument.cls ≠ "java/lang/invoke/VarHandle" ∧ (parseMethodDescriptor yX2_appendArgument.desc).map (fun d => d.parameters.length) = some 1 := by decide +kernel
theorem gcX7_copyRow : GoodIn TB (.code yX7_copyRow cX7_copyRow 3 none :: TB) := gC q385
theorem hsX7_copyRow : yX7_copyRow.cls ≠ "java/lang/invoke/MethodHandle" ∧ yX7_copyRow.cls ≠ "java/lang/invoke/VarHandle" ∧ (parseMethodDescriptor yX7_copyRow.desc).map (fun d => d.parameters.length) = some 2 := by decide +kernel
theorem gX5_73 : GoodIn TB (wsV RX5 73 RX5 yX5_outermostClosed (.code yX5_outermostClosed cX5_outermostClosed 5 (some .int) :: TB)) := gV q322 q323 q324 q20 q325
theorem gX5_77 : GoodIn TB (wsV RX5 77 RX5 yX5_isOpen (.code yX5_isOpen cX5_isOpen 2 (some .boolean) :: TB)) := gV q390 q391 q392 q20 q393
theorem gX5_81 : GoodIn TB (wsV RX5 81 RX5 yX5_boxAtHand (.code yX5_boxAtHand cX5_boxAtHand 2 (some .boolean) :: TB)) := gV q797 q457 q458 q20 q459
theorem gX5_84 : GoodIn TB (wsV RX5 84 RX5 yX5_hasLock (.code yX5_hasLock cX5_hasLock 3 (some .boolean) :: TB)) := gV q326 q327 q328 q20 q329
theorem gX5_88 : GoodIn TB (wsV RX5 88 RX5 yX5_isHeld (.code yX5_isHeld cX5_isHeld 2 (some .boolean) :: TB)) := gV q362 q363 q364 q20 q365
theorem gX5_91 : GoodIn TB (wsV RX5 91 RX5 yX5_propsIn (.code yX5_propsIn cX5_propsIn 4 (some .int) :: TB)) := gV q354 q355 q356 q20 q357
theorem gX5_94 : GoodIn TB (wsV RX5 94 RX5 yX5_isPale (.code yX5_isPale cX5_isPale 2 (some .boolean) :: TB)) := gV q410 q411 q412 q20 q413
theorem hdX5_isPale : yX5_isPale.cls = RX5 ∧ yX5_isPale.cls ≠ "java/lang/invoke/MethodHandle" ∧ yX5_isPale.cls ≠ "java/lang/invoke/VarHandle" ∧ (parseMethodDescriptor yX5_isPale.desc).map (fun d => d.parameters.length) = some 1 := by decide +kernel
theorem gX5_97 : GoodIn TB (wsV RX5 97 RX5 yX5_clueAtHand (.code yX5_clueAtHand cX5_clueAtHand 2 (some .boolean) :: TB)) := gV q338 q339 q340 q20 q341
theorem gcX7_actMinutes : GoodIn TB (.code yX7_actMinutes cX7_actMinutes 2 (some .int) :: TB) := gC q402
theorem gX5_109 : GoodIn TB (wsV RX5 109 RX5 yX5_learnDigit (.code yX5_learnDigit cX5_learnDigit 3 none :: TB)) := gV q418 q419 q420 q20 q421
theorem gX5_113 : GoodIn TB (wsV RX5 113 RX5 yX5_stepForCode (.code yX5_stepForCode cX5_stepForCode 6 (some .int) :: TB)) := gV q330 q332 q0 q20 q333
theorem hdX5_stepForCode : yX5_stepForCode.cls = RX5 ∧ yX5_stepForCode.cls ≠ "java/lang/invoke/MethodHandle" ∧ yX5_stepForCode.cls ≠ "java/lang/invoke/VarHandle" ∧ (parseMethodDescriptor yX5_stepForCode.desc).map (fun d => d.parameters.length) = some 1 := by decide +kernel
theorem gX5_116 : GoodIn TB (wsV RX5 116 RX5 yX5_stepForThing (.code yX5_stepForThing cX5_stepForThing 4 (some .int) :: TB)) := gV q342 q344 q2 q20 q345
theorem hdX5_stepForThing : yX5_stepForThing.cls = RX5 ∧ yX5_stepForThing.cls ≠ "java/lang/invoke/MethodHandle" ∧ yX5_stepForThing.cls ≠ "java/lang/invoke/VarHandle" ∧ (parseMethodDescriptor yX5_stepForThing.desc).map (fun d => d.parameters.length) = some 1 := by decide +kernel
theorem gX5_119 : GoodIn TB (wsV RX5 119 RX5 yX5_stepToHold (.code yX5_stepToHold cX5_stepToHold 3 (some .int) :: TB)) := gV q346 q348 q3 q20 q349
theorem hdX5_stepToHold : yX5_stepToHold.cls = RX5 ∧ yX5_stepToHold.cls ≠ "java/lang/invoke/MethodHandle" ∧ yX5_stepToHold.cls ≠ "java/lang/invoke/VarHandle" ∧ (parseMethodDescriptor yX5_stepToHold.desc).map (fun d => d.parameters.length) = some 1 := by decide +kernel
theorem gX5_122 : GoodIn TB (wsV RX5 122 RX5 yX5_heldProps (.code yX5_heldProps cX5_heldProps 1 (some .int) :: TB)) := gV q350 q351 q352 q20 q353
theorem gX5_126 : GoodIn TB (wsV RX5 126 RX5 yX5_lowestHeld (.code yX5_lowestHeld cX5_lowestHeld 2 (some .int) :: TB)) := gV q358 q360 q4 q20 q361
theorem hdX5_lowestHeld : yX5_lowestHeld.cls = RX5 ∧ yX5_lowestHeld.cls ≠ "java/lang/invoke/MethodHandle" ∧ yX5_lowestHeld.cls ≠ "java/lang/invoke/VarHandle" ∧ (parseMethodDescriptor yX5_lowestHeld.desc).map (fun d => d.parameters.length) = some 0 := by decide +kernel
theorem gX5_129 : GoodIn TB (wsV RX5 129 RX5 yX5_lowestUnknownPlace (.code yX5_lowestUnknownPlace cX5_lowestUnknownPlace 3 (some .int) :: TB)) := gV q334 q336 q1 q20 q337
theorem hdX5_lowestUnknownPlace : yX5_lowestUnknownPlace.cls = RX5 ∧ yX5_lowestUnknownPlace.cls ≠ "java/lang/invoke/MethodHandle" ∧ yX5_lowestUnknownPlace.cls ≠ "java/lang/invoke/VarHandle" ∧ (parseMethodDescriptor yX5_lowestUnknownPlace.desc).map (fun d => d.parameters.length) = some 1 := by decide +kernel
theorem gX5_132 : GoodIn TB (wsV RX5 132 RX5 yX5_stepFor (.code yX5_stepFor cX5_stepFor 6 (some .int) :: TB)) := gV q394 q316 q317 q20 q318
theorem gcX7_stepKind : GoodIn TB (.code yX7_stepKind cX7_stepKind 1 (some .int) :: TB) := gC q371
theorem gX5_138 : GoodIn TB (wsV RX5 138 RX5 yX5_follow (.code yX5_follow cX5_follow 5 (some .int) :: TB)) := gV q396 q398 q5 q20 q399
theorem hdX5_follow : yX5_follow.cls = RX5 ∧ yX5_follow.cls ≠ "java/lang/invoke/MethodHandle" ∧ yX5_follow.cls ≠ "java/lang/invoke/VarHandle" ∧ (parseMethodDescriptor yX5_follow.desc).map (fun d => d.parameters.length) = some 3 := by decide +kernel
theorem gX5_142 : GoodIn TB (wsV RX5 142 RX5 yX5_readingMinutes (.code yX5_readingMinutes cX5_readingMinutes 2 (some .int) :: TB)) := gV q406 q407 q408 q20 q409
theorem gX5_145 : GoodIn TB (wsV RX5 145 RX5 yX5_learnFromClue (.code yX5_learnFromClue cX5_learnFromClue 2 none :: TB)) := gV q414 q415 q416 q20 q417
theorem gX6_53 : GoodIn TB (wsV RX6 53 RX5 yX5_copyFrom (.code yX5_copyFrom cX5_copyFrom 2 none :: TB)) := gV q931 q380 q381 q20 q382
theorem gX6_57 : GoodIn TB (wsV RX6 57 RX3 yX3_copyFrom (.code yX3_copyFrom cX3_copyFrom 2 none :: TB)) := gV q932 q933 q934 q21 q935
theorem hdX3_copyFrom : yX3_copyFrom.cls = RX3 ∧ yX3_copyFrom.cls ≠ "java/lang/invoke/MethodHandle" ∧ yX3_copyFrom.cls ≠ "java/lang/invoke/VarHandle" ∧ (parseMethodDescriptor yX3_copyFrom.desc).map (fun d => d.parameters.length) = some 1 := by decide +kernel
theorem gX6_60 : GoodIn TB (wsV RX6 60 RX1 yX1_copyFrom (.code yX1_copyFrom cX1_copyFrom 2 none :: TB)) := gV q937 q938 q939 q22 q940
theorem hdX1_copyFrom : yX1_copyFrom.cls = RX1 ∧ yX1_copyFrom.cls ≠ "java/lang/invoke/MethodHandle" ∧ yX1_copyFrom.cls ≠ "java/lang/invoke/VarHandle" ∧ (parseMethodDescriptor yX1_copyFrom.desc).map (fun d => d.parameters.length) = some 1 := by decide +kernel
theorem gX6_63 : GoodIn TB (wsV RX6 63 RX4 yX4_copyFrom (.code yX4_copyFrom cX4_copyFrom 2 none :: TB)) := gV q941 q942 q943 q23 q944
theorem hdX4_copyFrom : yX4_copyFrom.cls = RX4 ∧ yX4_copyFrom.cls ≠ "java/lang/invoke/MethodHandle" ∧ yX4_copyFrom.cls ≠ "java/lang/invoke/VarHandle" ∧ (parseMethodDescriptor yX4_copyFrom.desc).map (fun d => d.parameters.length) = some 1 := by decide +kernel
theorem gX6_66 : GoodIn TB (wsV RX6 66 RX2 yX2_copyFrom (.code yX2_copyFrom cX2_copyFrom 3 none :: TB)) := gV q946 q947 q948 q24 q949
theorem hdX2_copyFrom : yX2_copyFrom.cls = RX2 ∧ yX2_copyFrom.cls ≠ "java/lang/invoke/MethodHandle" ∧ yX2_copyFrom.cls ≠ "java/lang/invoke/VarHandle" ∧ (parseMethodDescriptor yX2_copyFrom.desc).map (fun d => d.parameters.length) = some 1 := by decide +kernel
theorem gX6_75 : GoodIn TB (wsV RX6 75 RX5 yX5_fade (.code yX5_fade cX5_fade 3 none :: TB)) := gV q755 q756 q757 q20 q758
theorem hdX5_fade : yX5_fade.cls = RX5 ∧ yX5_fade.cls ≠ "java/lang/invoke/MethodHandle" ∧ yX5_fade.cls ≠ "java/lang/invoke/VarHandle" ∧ (parseMethodDescriptor yX5_fade.desc).map (fun d => d.parameters.length) = some 1 := by decide +kernel
theorem gX6_82 : GoodIn TB (wsV RX6 82 RX6 yX6_minutesLeft (.code yX6_minutesLeft cX6_minutesLeft 1 (some .int) :: TB)) := gV q721 q495 q496 q19 q497
theorem gX6_86 : GoodIn TB (wsV RX6 86 RX6 yX6_gameMinute (.code yX6_gameMinute cX6_gameMinute 1 (some .int) :: TB)) := gV q726 q727 q728 q19 q729
theorem gX6_89 : GoodIn TB (wsV RX6 89 RX2 yX2_append (.code yX2_append cX2_append 6 none :: TB)) := gV q731 q732 q733 q24 q734
theorem hdX2_append : yX2_append.cls = RX2 ∧ yX2_append.cls ≠ "java/lang/invoke/MethodHandle" ∧ yX2_append.cls ≠ "java/lang/invoke/VarHandle" ∧ (parseMethodDescriptor yX2_append.desc).map (fun d => d.parameters.length) = some 4 := by decide +kernel
theorem gX6_109 : GoodIn TB (wsV RX6 109 RX3 yX3_remove (.code yX3_remove cX3_remove 3 none :: TB)) := gV q883 q884 q885 q21 q886
theorem gX6_118 : GoodIn TB (wsV RX6 118 RX6 yX6_pass (.code yX6_pass cX6_pass 3 none :: TB)) := gV q751 q752 q753 q19 q754
theorem gX6_127 : GoodIn TB (wsV RX6 127 RX5 yX5_propsAway (.code yX5_propsAway cX5_propsAway 3 (some .int) :: TB)) := gV q522 q507 q508 q20 q509
theorem gX6_130 : GoodIn TB (wsV RX6 130 RX5 yX5_openBoxes (.code yX5_openBoxes cX5_openBoxes 3 (some .int) :: TB)) := gV q523 q511 q512 q20 q513
theorem gcX7_asNumber : GoodIn TB (.code yX7_asNumber cX7_asNumber 1 (some .int) :: TB) := gC q439
theorem gX6_150 : GoodIn TB (wsV RX6 150 RX4 yX4_append (.code yX4_append cX4_append 5 none :: TB)) := gV q764 q765 q766 q23 q767
theorem hdX4_append : yX4_append.cls = RX4 ∧ yX4_append.cls ≠ "java/lang/invoke/MethodHandle" ∧ yX4_append.cls ≠ "java/lang/invoke/VarHandle" ∧ (parseMethodDescriptor yX4_append.desc).map (fun d => d.parameters.length) = some 3 := by decide +kernel
theorem gX6_153 : GoodIn TB (wsV RX6 153 RX5 yX5_dropHeldProps (.code yX5_dropHeldProps cX5_dropHeldProps 2 none :: TB)) := gV q769 q770 q771 q20 q772
theorem hdX5_dropHeldProps : yX5_dropHeldProps.cls = RX5 ∧ yX5_dropHeldProps.cls ≠ "java/lang/invoke/MethodHandle" ∧ yX5_dropHeldProps.cls ≠ "java/lang/invoke/VarHandle" ∧ (parseMethodDescriptor yX5_dropHeldProps.desc).map (fun d => d.parameters.length) = some 0 := by decide +kernel
theorem gX6_156 : GoodIn TB (wsV RX6 156 RX5 yX5_forgetDigits (.code yX5_forgetDigits cX5_forgetDigits 2 none :: TB)) := gV q773 q774 q775 q20 q776
theorem hdX5_forgetDigits : yX5_forgetDigits.cls = RX5 ∧ yX5_forgetDigits.cls ≠ "java/lang/invoke/MethodHandle" ∧ yX5_forgetDigits.cls ≠ "java/lang/invoke/VarHandle" ∧ (parseMethodDescriptor yX5_forgetDigits.desc).map (fun d => d.parameters.length) = some 0 := by decide +kernel
theorem gX6_161 : GoodIn TB (wsV RX6 161 RX6 yX6_endGame (.code yX6_endGame cX6_endGame 2 none :: TB)) := gV q759 q760 q761 q19 q762
theorem gX6_165 : GoodIn TB (wsV RX6 165 RX5 yX5_inkLack (.code yX5_inkLack cX5_inkLack 2 (some .int) :: TB)) := gV q529 q530 q531 q20 q532
theorem gX6_179 : GoodIn TB (wsV RX6 179 RX5 yX5_isPale (.code yX5_isPale cX5_isPale 2 (some .boolean) :: TB)) := gV q528 q411 q412 q20 q413
theorem gX6_183 : GoodIn TB (wsV RX6 183 RX6 yX6_cluesOfReset (.code yX6_cluesOfReset cX6_cluesOfReset 4 (some .int) :: TB)) := gV q524 q526 q6 q19 q527
theorem hdX6_cluesOfReset : yX6_cluesOfReset.cls = RX6 ∧ yX6_cluesOfReset.cls ≠ "java/lang/invoke/MethodHandle" ∧ yX6_cluesOfReset.cls ≠ "java/lang/invoke/VarHandle" ∧ (parseMethodDescriptor yX6_cluesOfReset.desc).map (fun d => d.parameters.length) = some 0 := by decide +kernel
theorem gX6_186 : GoodIn TB (va_wsS RX6 186 yJ6_bitCount_0f7a4 (.code yJ6_bitCount_0f7a4 cJ6_bitCount_0f7a4 1 (some .int) :: TB)) := gS q533 q534 q30 q535
theorem hsJ6_bitCount_0f7a4 : yJ6_bitCount_0f7a4.cls ≠ "java/lang/invoke/MethodHandle" ∧ yJ6_bitCount_0f7a4.cls ≠ "java/lang/invoke/VarHandle" ∧ (parseMethodDescriptor yJ6_bitCount_0f7a4.desc).map (fun d => d.parameters.length) = some 1 := by decide +kernel
theorem gX6_191 : GoodIn TB (wsV RX6 191 RX5 yX5_bringPropsHome (.code yX5_bringPropsHome cX5_bringPropsHome 2 none :: TB)) := gV q839 q840 q841 q20 q842
theorem hdX5_bringPropsHome : yX5_bringPropsHome.cls = RX5 ∧ yX5_bringPropsHome.cls ≠ "java/lang/invoke/MethodHandle" ∧ yX5_bringPropsHome.cls ≠ "java/lang/invoke/VarHandle" ∧ (parseMethodDescriptor yX5_bringPropsHome.desc).map (fun d => d.parameters.length) = some 0 := by decide +kernel
theorem gX6_194 : GoodIn TB (wsV RX6 194 RX5 yX5_closeBoxes (.code yX5_closeBoxes cX5_closeBoxes 2 none :: TB)) := gV q843 q844 q845 q20 q846
theorem hdX5_closeBoxes : yX5_closeBoxes.cls = RX5 ∧ yX5_closeBoxes.cls ≠ "java/lang/invoke/MethodHandle" ∧ yX5_closeBoxes.cls ≠ "java/lang/invoke/VarHandle" ∧ (parseMethodDescriptor yX5_closeBoxes.desc).map (fun d => d.parameters.length) = some 0 := by decide +kernel
theorem gX6_197 : GoodIn TB (wsV RX6 197 RX6 yX6_refill (.code yX6_refill cX6_refill 2 none :: TB)) := gV q847 q848 q849 q19 q850
theorem gL_9 : GoodIn TB (wsV RL 9 RX7 yX7_box (.code yX7_box cX7_box 4 (some .int) :: TB)) := gV q447 q448 q449 q17 q450
theorem hdX7_box : yX7_box.cls = RX7 ∧ yX7_box.cls ≠ "java/lang/invoke/MethodHandle" ∧ yX7_box.cls ≠ "java/lang/invoke/VarHandle" ∧ (parseMethodDescriptor yX7_box.desc).map (fun d => d.parameters.length) = some 2 := by decide +kernel
theorem gL_15 : GoodIn TB (wsV RL 15 RX7 yX7_count (.code yX7_count cX7_count 2 (some .int) :: TB)) := gV q423 q424 q425 q17 q426
theorem hdX7_count : yX7_count.cls = RX7 ∧ yX7_count.cls ≠ "java/lang/invoke/MethodHandle" ∧ yX7_count.cls ≠ "java/lang/invoke/VarHandle" ∧ (parseMethodDescriptor yX7_count.desc).map (fun d => d.parameters.length) = some 1 := by decide +kernel
theorem gL_19 : GoodIn TB (va_wsS RL 19 yL_allOpen (.code yL_allOpen cL_allOpen 4 (some .boolean) :: TB)) := gS q466 q467 q16 q468
theorem hsL_allOpen : yL_allOpen.cls ≠ "java/lang/invoke/MethodHandle" ∧ yL_allOpen.cls ≠ "java/lang/invoke/VarHandle" ∧ (parseMethodDescriptor yL_allOpen.desc).map (fun d => d.parameters.length) = some 2 := by decide +kernel
theorem gL_25 : GoodIn TB (wsV RL 25 RX7 yX7_prop (.code yX7_prop cX7_prop 4 (some .int) :: TB)) := gV q469 q470 q471 q17 q472
theorem hdX7_prop : yX7_prop.cls = RX7 ∧ yX7_prop.cls ≠ "java/lang/invoke/MethodHandle" ∧ yX7_prop.cls ≠ "java/lang/invoke/VarHandle" ∧ (parseMethodDescriptor yX7_prop.desc).map (fun d => d.parameters.length) = some 2 := by decide +kernel
theorem gL_28 : GoodIn TB (wsV RL 28 RX7 yX7_game (.code yX7_game cX7_game 2 (some .int) :: TB)) := gV q490 q491 q492 q17 q493
theorem hdX7_game : yX7_game.cls = RX7 ∧ yX7_game.cls ≠ "java/lang/invoke/MethodHandle" ∧ yX7_game.cls ≠ "java/lang/invoke/VarHandle" ∧ (parseMethodDescriptor yX7_game.desc).map (fun d => d.parameters.length) = some 1 := by decide +kernel
theorem gL_31 : GoodIn TB (wsV RL 31 RX7 yX7_differences (.code yX7_differences cX7_differences 2 (some .int) :: TB)) := gV q502 q503 q504 q17 q505
theorem hdX7_differences : yX7_differences.cls = RX7 ∧ yX7_differences.cls ≠ "java/lang/invoke/MethodHandle" ∧ yX7_differences.cls ≠ "java/lang/invoke/VarHandle" ∧ (parseMethodDescriptor yX7_differences.desc).map (fun d => d.parameters.length) = some 1 := by decide +kernel
theorem gL_34 : GoodIn TB (wsV RL 34 RX7 yX7_clue (.code yX7_clue cX7_clue 4 (some .int) :: TB)) := gV q546 q547 q548 q17 q549
theorem hdX7_clue : yX7_clue.cls = RX7 ∧ yX7_clue.cls ≠ "java/lang/invoke/MethodHandle" ∧ yX7_clue.cls ≠ "java/lang/invoke/VarHandle" ∧ (parseMethodDescriptor yX7_clue.desc).map (fun d => d.parameters.length) = some 2 := by decide +kernel
theorem gL_37 : GoodIn TB (wsV RL 37 RX7 yX7_group (.code yX7_group cX7_group 3 (some .int) :: TB)) := gV q562 q563 q564 q17 q565
theorem hdX7_group : yX7_group.cls = RX7 ∧ yX7_group.cls ≠ "java/lang/invoke/MethodHandle" ∧ yX7_group.cls ≠ "java/lang/invoke/VarHandle" ∧ (parseMethodDescriptor yX7_group.desc).map (fun d => d.parameters.length) = some 2 := by decide +kernel
theorem gL_40 : GoodIn TB (va_wsS RL 40 yL_max (.code yL_max cL_max 2 (some .int) :: TB)) := gS q576 q577 q16 q578
theorem hsL_max : yL_max.cls ≠ "java/lang/invoke/MethodHandle" ∧ yL_max.cls ≠ "java/lang/invoke/VarHandle" ∧ (parseMethodDescriptor yL_max.desc).map (fun d => d.parameters.length) = some 2 := by decide +kernel
theorem gL_43 : GoodIn TB (wsV RL 43 RX7 yX7_result (.code yX7_result cX7_result 3 (some .int) :: TB)) := gV q579 q580 q581 q17 q582
theorem hdX7_result : yX7_result.cls = RX7 ∧ yX7_result.cls ≠ "java/lang/invoke/MethodHandle" ∧ yX7_result.cls ≠ "java/lang/invoke/VarHandle" ∧ (parseMethodDescriptor yX7_result.desc).map (fun d => d.parameters.length) = some 2 := by decide +kernel
theorem gL_46 : GoodIn TB (wsV RL 46 RX7 yX7_clearText (.code yX7_clearText cX7_clearText 2 (some .int) :: TB)) := gV q593 q594 q595 q17 q596
theorem hdX7_clearText : yX7_clearText.cls = RX7 ∧ yX7_clearText.cls ≠ "java/lang/invoke/MethodHandle" ∧ yX7_clearText.cls ≠ "java/lang/invoke/VarHandle" ∧ (parseMethodDescriptor yX7_clearText.desc).map (fun d => d.parameters.length) = some 0 := by decide +kernel
theorem gL_50 : GoodIn TB (wsV RL 50 RX7 yX7_type (.code yX7_type cX7_type 2 (some .int) :: TB)) := gV q597 q598 q599 q17 q600
theorem hdX7_type : yX7_type.cls = RX7 ∧ yX7_type.cls ≠ "java/lang/invoke/MethodHandle" ∧ yX7_type.cls ≠ "java/lang/invoke/VarHandle" ∧ (parseMethodDescriptor yX7_type.desc).map (fun d => d.parameters.length) = some 1 := by decide +kernel
theorem gL_54 : GoodIn TB (va_wsS RL 54 yL_low (.code yL_low cL_low 2 (some .int) :: TB)) := gS q586 q587 q16 q588
theorem hsL_low : yL_low.cls ≠ "java/lang/invoke/MethodHandle" ∧ yL_low.cls ≠ "java/lang/invoke/VarHandle" ∧ (parseMethodDescriptor yL_low.desc).map (fun d => d.parameters.length) = some 2 := by decide +kernel
theorem gL_57 : GoodIn TB (va_wsS RL 57 yL_types (.code yL_types cL_types 5 none :: TB)) := gS q590 q591 q16 q592
theorem hsL_types : yL_types.cls ≠ "java/lang/invoke/MethodHandle" ∧ yL_types.cls ≠ "java/lang/invoke/VarHandle" ∧ (parseMethodDescriptor yL_types.desc).map (fun d => d.parameters.length) = some 4 := by decide +kernel
theorem gL_61 : GoodIn TB (wsV RL 61 RX7 yX7_addBox (.code yX7_addBox cX7_addBox 4 (some .int) :: TB)) := gV q602 q603 q604 q17 q605
theorem hdX7_addBox : yX7_addBox.cls = RX7 ∧ yX7_addBox.cls ≠ "java/lang/invoke/MethodHandle" ∧ yX7_addBox.cls ≠ "java/lang/invoke/VarHandle" ∧ (parseMethodDescriptor yX7_addBox.desc).map (fun d => d.parameters.length) = some 0 := by decide +kernel
theorem gL_64 : GoodIn TB (wsV RL 64 RX7 yX7_addProp (.code yX7_addProp cX7_addProp 2 (some .int) :: TB)) := gV q688 q689 q690 q17 q691
theorem hdX7_addProp : yX7_addProp.cls = RX7 ∧ yX7_addProp.cls ≠ "java/lang/invoke/MethodHandle" ∧ yX7_addProp.cls ≠ "java/lang/invoke/VarHandle" ∧ (parseMethodDescriptor yX7_addProp.desc).map (fun d => d.parameters.length) = some 1 := by decide +kernel
theorem gL_67 : GoodIn TB (wsV RL 67 RX7 yX7_addClue (.code yX7_addClue cX7_addClue 5 (some .int) :: TB)) := gV q696 q697 q698 q17 q699
theorem hdX7_addClue : yX7_addClue.cls = RX7 ∧ yX7_addClue.cls ≠ "java/lang/invoke/MethodHandle" ∧ yX7_addClue.cls ≠ "java/lang/invoke/VarHandle" ∧ (parseMethodDescriptor yX7_addClue.desc).map (fun d => d.parameters.length) = some 3 := by decide +kernel
theorem gL_71 : GoodIn TB (wsV RL 71 RX7 yX7_take (.code yX7_take cX7_take 4 (some .int) :: TB)) := gV q711 q712 q713 q17 q714
theorem hdX7_take : yX7_take.cls = RX7 ∧ yX7_take.cls ≠ "java/lang/invoke/MethodHandle" ∧ yX7_take.cls ≠ "java/lang/invoke/VarHandle" ∧ (parseMethodDescriptor yX7_take.desc).map (fun d => d.parameters.length) = some 1 := by decide +kernel
theorem gL_74 : GoodIn TB (wsV RL 74 RX7 yX7_lay (.code yX7_lay cX7_lay 5 (some .int) :: TB)) := gV q783 q784 q785 q17 q786
theorem hdX7_lay : yX7_lay.cls = RX7 ∧ yX7_lay.cls ≠ "java/lang/invoke/MethodHandle" ∧ yX7_lay.cls ≠ "java/lang/invoke/VarHandle" ∧ (parseMethodDescriptor yX7_lay.desc).map (fun d => d.parameters.length) = some 2 := by decide +kernel
theorem gL_77 : GoodIn TB (wsV RL 77 RX7 yX7_open (.code yX7_open cX7_open 6 (some .int) :: TB)) := gV q789 q790 q791 q17 q792
theorem hdX7_open : yX7_open.cls = RX7 ∧ yX7_open.cls ≠ "java/lang/invoke/MethodHandle" ∧ yX7_open.cls ≠ "java/lang/invoke/VarHandle" ∧ (parseMethodDescriptor yX7_open.desc).map (fun d => d.parameters.length) = some 2 := by decide +kernel
theorem gL_80 : GoodIn TB (wsV RL 80 RX7 yX7_read (.code yX7_read cX7_read 4 (some .int) :: TB)) := gV q800 q801 q802 q17 q803
theorem hdX7_read : yX7_read.cls = RX7 ∧ yX7_read.cls ≠ "java/lang/invoke/MethodHandle" ∧ yX7_read.cls ≠ "java/lang/invoke/VarHandle" ∧ (parseMethodDescriptor yX7_read.desc).map (fun d => d.parameters.length) = some 1 := by decide +kernel
theorem gL_83 : GoodIn TB (wsV RL 83 RX7 yX7_nudge (.code yX7_nudge cX7_nudge 2 (some .int) :: TB)) := gV q807 q808 q809 q17 q810
theorem hdX7_nudge : yX7_nudge.cls = RX7 ∧ yX7_nudge.cls ≠ "java/lang/invoke/MethodHandle" ∧ yX7_nudge.cls ≠ "java/lang/invoke/VarHandle" ∧ (parseMethodDescriptor yX7_nudge.desc).map (fun d => d.parameters.length) = some 0 := by decide +kernel
theorem gL_86 : GoodIn TB (wsV RL 86 RX7 yX7_nextStep (.code yX7_nextStep cX7_nextStep 1 (some .int) :: TB)) := gV q311 q312 q313 q17 q314
theorem hdX7_nextStep : yX7_nextStep.cls = RX7 ∧ yX7_nextStep.cls ≠ "java/lang/invoke/MethodHandle" ∧ yX7_nextStep.cls ≠ "java/lang/invoke/VarHandle" ∧ (parseMethodDescriptor yX7_nextStep.desc).map (fun d => d.parameters.length) = some 0 := by decide +kernel
theorem gL_89 : GoodIn TB (va_wsS RL 89 yL_does (.code yL_does cL_does 7 (some .boolean) :: TB)) := gS q708 q709 q16 q710
theorem hsL_does : yL_does.cls ≠ "java/lang/invoke/MethodHandle" ∧ yL_does.cls ≠ "java/lang/invoke/VarHandle" ∧ (parseMethodDescriptor yL_does.desc).map (fun d => d.parameters.length) = some 2 := by decide +kernel
theorem gL_92 : GoodIn TB (wsV RL 92 RX7 yX7_rest (.code yX7_rest cX7_rest 2 (some .int) :: TB)) := gV q813 q814 q815 q17 q816
theorem hdX7_rest : yX7_rest.cls = RX7 ∧ yX7_rest.cls ≠ "java/lang/invoke/MethodHandle" ∧ yX7_rest.cls ≠ "java/lang/invoke/VarHandle" ∧ (parseMethodDescriptor yX7_rest.desc).map (fun d => d.parameters.length) = some 1 := by decide +kernel
theorem gL_95 : GoodIn TB (wsV RL 95 RX7 yX7_giveUp (.code yX7_giveUp cX7_giveUp 2 (some .int) :: TB)) := gV q818 q819 q820 q17 q821
theorem hdX7_giveUp : yX7_giveUp.cls = RX7 ∧ yX7_giveUp.cls ≠ "java/lang/invoke/MethodHandle" ∧ yX7_giveUp.cls ≠ "java/lang/invoke/VarHandle" ∧ (parseMethodDescriptor yX7_giveUp.desc).map (fun d => d.parameters.length) = some 0 := by decide +kernel
theorem gL_98 : GoodIn TB (wsV RL 98 RX7 yX7_idle (.code yX7_idle cX7_idle 2 (some .int) :: TB)) := gV q827 q828 q829 q17 q830
theorem hdX7_idle : yX7_idle.cls = RX7 ∧ yX7_idle.cls ≠ "java/lang/invoke/MethodHandle" ∧ yX7_idle.cls ≠ "java/lang/invoke/VarHandle" ∧ (parseMethodDescriptor yX7_idle.desc).map (fun d => d.parameters.length) = some 1 := by decide +kernel
theorem gL_101 : GoodIn TB (wsV RL 101 RX7 yX7_reset (.code yX7_reset cX7_reset 2 (some .int) :: TB)) := gV q831 q832 q833 q17 q834
theorem hdX7_reset : yX7_reset.cls = RX7 ∧ yX7_reset.cls ≠ "java/lang/invoke/MethodHandle" ∧ yX7_reset.cls ≠ "java/lang/invoke/VarHandle" ∧ (parseMethodDescriptor yX7_reset.desc).map (fun d => d.parameters.length) = some 0 := by decide +kernel
theorem gL_104 : GoodIn TB (wsV RL 104 RX7 yX7_addPaint (.code yX7_addPaint cX7_addPaint 2 (some .int) :: TB)) := gV q852 q853 q854 q17 q855
theorem hdX7_addPaint : yX7_addPaint.cls = RX7 ∧ yX7_addPaint.cls ≠ "java/lang/invoke/MethodHandle" ∧ yX7_addPaint.cls ≠ "java/lang/invoke/VarHandle" ∧ (parseMethodDescriptor yX7_addPaint.desc).map (fun d => d.parameters.length) = some 1 := by decide +kernel
theorem gL_107 : GoodIn TB (wsV RL 107 RX7 yX7_setExit (.code yX7_setExit cX7_setExit 3 (some .int) :: TB)) := gV q856 q857 q858 q17 q859
theorem hdX7_setExit : yX7_setExit.cls = RX7 ∧ yX7_setExit.cls ≠ "java/lang/invoke/MethodHandle" ∧ yX7_setExit.cls ≠ "java/lang/invoke/VarHandle" ∧ (parseMethodDescriptor yX7_setExit.desc).map (fun d => d.parameters.length) = some 1 := by decide +kernel
theorem gL_110 : GoodIn TB (wsV RL 110 RX7 yX7_close (.code yX7_close cX7_close 3 (some .int) :: TB)) := gV q860 q861 q862 q17 q863
theorem hdX7_close : yX7_close.cls = RX7 ∧ yX7_close.cls ≠ "java/lang/invoke/MethodHandle" ∧ yX7_close.cls ≠ "java/lang/invoke/VarHandle" ∧ (parseMethodDescriptor yX7_close.desc).map (fun d => d.parameters.length) = some 1 := by decide +kernel
theorem gL_113 : GoodIn TB (va_wsS RL 113 yL_build (.code yL_build cL_build 12 (some .boolean) :: TB)) := gS q583 q584 q16 q585
theorem hsL_build : yL_build.cls ≠ "java/lang/invoke/MethodHandle" ∧ yL_build.cls ≠ "java/lang/invoke/VarHandle" ∧ (parseMethodDescriptor yL_build.desc).map (fun d => d.parameters.length) = some 3 := by decide +kernel
theorem gL_117 : GoodIn TB (wsV RL 117 RX7 yX7_book (.code yX7_book cX7_book 4 (some .int) :: TB)) := gV q865 q866 q867 q17 q868
theorem hdX7_book : yX7_book.cls = RX7 ∧ yX7_book.cls ≠ "java/lang/invoke/MethodHandle" ∧ yX7_book.cls ≠ "java/lang/invoke/VarHandle" ∧ (parseMethodDescriptor yX7_book.desc).map (fun d => d.parameters.length) = some 2 := by decide +kernel
theorem gL_120 : GoodIn TB (wsV RL 120 RX7 yX7_startGame (.code yX7_startGame cX7_startGame 2 (some .int) :: TB)) := gV q875 q876 q877 q17 q878
theorem hdX7_startGame : yX7_startGame.cls = RX7 ∧ yX7_startGame.cls ≠ "java/lang/invoke/MethodHandle" ∧ yX7_startGame.cls ≠ "java/lang/invoke/VarHandle" ∧ (parseMethodDescriptor yX7_startGame.desc).map (fun d => d.parameters.length) = some 0 := by decide +kernel
theorem gL_123 : GoodIn TB (wsV RL 123 RX7 yX7_logAt (.code yX7_logAt cX7_logAt 2 (some .int) :: TB)) := gV q890 q891 q892 q17 q893
theorem hdX7_logAt : yX7_logAt.cls = RX7 ∧ yX7_logAt.cls ≠ "java/lang/invoke/MethodHandle" ∧ yX7_logAt.cls ≠ "java/lang/invoke/VarHandle" ∧ (parseMethodDescriptor yX7_logAt.desc).map (fun d => d.parameters.length) = some 1 := by decide +kernel
theorem gL_126 : GoodIn TB (wsV RL 126 RX7 yX7_putHome (.code yX7_putHome cX7_putHome 4 (some .int) :: TB)) := gV q897 q898 q899 q17 q900
theorem hdX7_putHome : yX7_putHome.cls = RX7 ∧ yX7_putHome.cls ≠ "java/lang/invoke/MethodHandle" ∧ yX7_putHome.cls ≠ "java/lang/invoke/VarHandle" ∧ (parseMethodDescriptor yX7_putHome.desc).map (fun d => d.parameters.length) = some 1 := by decide +kernel
theorem gL_129 : GoodIn TB (wsV RL 129 RX7 yX7_writeOver (.code yX7_writeOver cX7_writeOver 4 (some .int) :: TB)) := gV q901 q902 q903 q17 q904
theorem hdX7_writeOver : yX7_writeOver.cls = RX7 ∧ yX7_writeOver.cls ≠ "java/lang/invoke/MethodHandle" ∧ yX7_writeOver.cls ≠ "java/lang/invoke/VarHandle" ∧ (parseMethodDescriptor yX7_writeOver.desc).map (fun d => d.parameters.length) = some 1 := by decide +kernel
theorem gL_132 : GoodIn TB (wsV RL 132 RX7 yX7_setLimits (.code yX7_setLimits cX7_setLimits 4 (some .int) :: TB)) := gV q907 q908 q909 q17 q910
theorem hdX7_setLimits : yX7_setLimits.cls = RX7 ∧ yX7_setLimits.cls ≠ "java/lang/invoke/MethodHandle" ∧ yX7_setLimits.cls ≠ "java/lang/invoke/VarHandle" ∧ (parseMethodDescriptor yX7_setLimits.desc).map (fun d => d.parameters.length) = some 2 := by decide +kernel
theorem gL_135 : GoodIn TB (wsV RL 135 RX7 yX7_plan (.code yX7_plan cX7_plan 2 (some .int) :: TB)) := gV q372 q373 q374 q17 q375
theorem hdX7_plan : yX7_plan.cls = RX7 ∧ yX7_plan.cls ≠ "java/lang/invoke/MethodHandle" ∧ yX7_plan.cls ≠ "java/lang/invoke/VarHandle" ∧ (parseMethodDescriptor yX7_plan.desc).map (fun d => d.parameters.length) = some 1 := by decide +kernel
theorem gL_138 : GoodIn TB (wsV RL 138 RX7 yX7_cancel (.code yX7_cancel cX7_cancel 2 (some .int) :: TB)) := gV q911 q912 q913 q17 q914
theorem hdX7_cancel : yX7_cancel.cls = RX7 ∧ yX7_cancel.cls ≠ "java/lang/invoke/MethodHandle" ∧ yX7_cancel.cls ≠ "java/lang/invoke/VarHandle" ∧ (parseMethodDescriptor yX7_cancel.desc).map (fun d => d.parameters.length) = some 1 := by decide +kernel
theorem gL_141 : GoodIn TB (wsV RL 141 RX7 yX7_keep (.code yX7_keep cX7_keep 2 (some .int) :: TB)) := gV q916 q917 q918 q17 q919
theorem hdX7_keep : yX7_keep.cls = RX7 ∧ yX7_keep.cls ≠ "java/lang/invoke/MethodHandle" ∧ yX7_keep.cls ≠ "java/lang/invoke/VarHandle" ∧ (parseMethodDescriptor yX7_keep.desc).map (fun d => d.parameters.length) = some 1 := by decide +kernel
theorem gL_144 : GoodIn TB (wsV RL 144 RX7 yX7_restore (.code yX7_restore cX7_restore 2 (some .int) :: TB)) := gV q951 q952 q953 q17 q954
theorem hdX7_restore : yX7_restore.cls = RX7 ∧ yX7_restore.cls ≠ "java/lang/invoke/MethodHandle" ∧ yX7_restore.cls ≠ "java/lang/invoke/VarHandle" ∧ (parseMethodDescriptor yX7_restore.desc).map (fun d => d.parameters.length) = some 1 := by decide +kernel
theorem nw0 : Cond.methodLinkNest RX7 (9) yX0_init RX7 ∈ nestW := List.mem_of_getElem? (i := 0) rfl
theorem nw1 : Cond.methodLinkNest RX7 (18) yX6_init RX7 ∈ nestW := List.mem_of_getElem? (i := 1) rfl
theorem nw2 : Cond.methodLinkNest RX5 (49) yX7_put RX7 ∈ nestW := List.mem_of_getElem? (i := 2) rfl
theorem nw3 : Cond.methodLinkNest RX6 (20) yX3_init RX7 ∈ nestW := List.mem_of_getElem? (i := 3) rfl
theorem nw4 : Cond.methodLinkNest RX6 (27) yX1_init RX7 ∈ nestW := List.mem_of_getElem? (i := 4) rfl
theorem nw5 : Cond.methodLinkNest RX6 (34) yX4_init RX7 ∈ nestW := List.mem_of_getElem? (i := 5) rfl
theorem nw6 : Cond.methodLinkNest RX6 (41) yX2_init RX7 ∈ nestW := List.mem_of_getElem? (i := 6) rfl
theorem nw7 : Cond.methodLinkNest RX5 (69) yX7_at RX7 ∈ nestW := List.mem_of_getElem? (i := 7) rfl
theorem nw8 : Cond.methodLinkNest RX5 (53) yX7_copyRow RX7 ∈ nestW := List.mem_of_getElem? (i := 8) rfl
theorem nw9 : Cond.methodLinkNest RX5 (135) yX7_stepKind RX7 ∈ nestW := List.mem_of_getElem? (i := 9) rfl
theorem nw10 : Cond.methodLinkNest RX5 (106) yX7_actMinutes RX7 ∈ nestW := List.mem_of_getElem? (i := 10) rfl
theorem nw11 : Cond.methodLinkNest RX3 (30) yX7_at RX7 ∈ nestW := List.mem_of_getElem? (i := 11) rfl
theorem nw12 : Cond.methodLinkNest RX4 (44) yX7_at RX7 ∈ nestW := List.mem_of_getElem? (i := 12) rfl
theorem nw13 : Cond.methodLinkNest RX6 (97) yX7_at RX7 ∈ nestW := List.mem_of_getElem? (i := 13) rfl
theorem nw14 : Cond.methodLinkNest RX0 (71) yX7_at RX7 ∈ nestW := List.mem_of_getElem? (i := 14) rfl
theorem nw15 : Cond.methodLinkNest RX2 (23) yX7_put RX7 ∈ nestW := List.mem_of_getElem? (i := 15) rfl
theorem nw16 : Cond.methodLinkNest RX6 (146) yX7_asNumber RX7 ∈ nestW := List.mem_of_getElem? (i := 16) rfl
theorem nw17 : Cond.methodLinkNest RX4 (28) yX7_put RX7 ∈ nestW := List.mem_of_getElem? (i := 17) rfl
theorem nw18 : Cond.methodLinkNest RX6 (172) yX7_put RX7 ∈ nestW := List.mem_of_getElem? (i := 18) rfl
theorem nw19 : Cond.methodLinkNest RX3 (26) yX7_put RX7 ∈ nestW := List.mem_of_getElem? (i := 19) rfl
theorem nw20 : Cond.methodLinkNest RX3 (22) yX7_copyRow RX7 ∈ nestW := List.mem_of_getElem? (i := 20) rfl
theorem nw21 : Cond.methodLinkNest RX4 (19) yX7_copyRow RX7 ∈ nestW := List.mem_of_getElem? (i := 21) rfl
theorem nw22 : Cond.methodLinkNest RX2 (19) yX7_at RX7 ∈ nestW := List.mem_of_getElem? (i := 22) rfl
