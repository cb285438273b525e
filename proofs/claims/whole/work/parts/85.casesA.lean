/-! the law's cases -/
theorem x_c_nar (x : Int32) : vp_nar .char (x_c x) = x_c x := by
  show ((x.toUInt32 % 65536).toInt32.toUInt32 % 65536).toInt32 = (x.toUInt32 % 65536).toInt32
  have h : x.toUInt32 % 65536 % 65536 = x.toUInt32 % 65536 := by
    apply UInt32.toNat_inj.mp
    simp [UInt32.toNat_mod]
  rw [show (x.toUInt32 % 65536).toInt32.toUInt32 = x.toUInt32 % 65536 by simp, h]
section LC
variable {G : va_G} {sK sV : Nat → Nat} {cA cZ cC : ClassId} {ax ar : Nat → Nat} {X R : Mem} {L b n j : Nat} {xs : Nat → Int32}
variable {p : Program} {l : Launch} {e : Env} {s : State} {m : MethodId} {args : Array Value} {below : List Frame} {meth : Method} {c : Code} {H : Heap} {locs : List Loc} {Q : State → Prop}
variable {ls : Array Slot}
theorem L_type (E : LE G sK sV cA cZ cC ax ar p s m args meth c b L xs) (hl : lv_has ls 4 [(3, .int (nI j)), (2, .ref (ar 0)), (1, .ref (ax 0)), (0, .ref b)]) (h : LW G cA cZ cC ax ar X R s H locs) (hL : L ≤ 2048) (hj : j + 4 ≤ L) (hn : n ≤ 600) (hr : Rel n X R) (tail : ∀ X' R' H1 locs1, Rel (n + 1) X' R' → LW G cA cZ cC ax ar X' R' s H1 locs1 → W p l e room_1 s m args below meth c H1 locs1 85 11280 Q (F0 m 1062 ls [])) : W p l e room_1 s m args below meth c H locs 85 11280 Q (F0 m 192 ls []) := by
  obtain ⟨v, X', R', cX, cR, hr'⟩ : ∃ (v : Int32) (X' R' : Mem), XI G ax sK sV cA cZ cC yX7_type cX7_type 2 .int ({ frames := 1, cells := 0, slots := 0, locals := 22 } : Room) (.ref (ax 0) :: [.int (x_c (xs (j + 1)))]) X v X' ∧ RI G ar cA cZ cC yX8_type cX8_type 2 .int ({ frames := 0, cells := 0, slots := 0, locals := 0 } : Room) (.ref (ar 0) :: [.int (x_c (xs (j + 1)))]) R v R' ∧ Rel (n + 1) X' R' := by
    obtain ⟨v, X', R', a1, a2, a3⟩ := type_ok hr (x_c_nar (xs (j + 1)))
    exact ⟨v, X', R', kX7_type E.2.2.1 X (x_c (xs (j + 1))) v X' a1, kX8_type E.2.2.2.1 R (x_c (xs (j + 1))) v R' a2, a3⟩
  refine lv_aload_n (pc := 192) E.1.1 E.1.2.1 dL_law_192 rfl (lv_at hl 2 rfl) ?_
  refine l_word (pc := 193) (k := 1) E hl h hL (by omega) rfl dL_law_193 dL_law_194 dL_law_195 dL_law_196 dL_law_197 ?_
  refine lv_i2c (pc := 198) (v := x_c (xs (j + 1))) E.1.1 E.1.2.1 dL_law_198 rfl ?_
  refine lx_call (na := 1) (pc := 199) (As := [.int (x_c (xs (j + 1)))]) (rest := []) E hl.1 h ⟨Nat.le_of_ble_eq_true rfl, Nat.le_of_ble_eq_true rfl⟩ cX (gV q366 q367 q368 q71 q369) (by decide +kernel) rfl ⟨Nat.le_of_ble_eq_true rfl, Nat.le_of_ble_eq_true rfl⟩ ⟨rfl, rfl⟩ dL_law_199 rfl (Nat.le_of_ble_eq_true rfl) (fun H locs h => ?_)
  refine lv_aload_n (pc := 202) E.1.1 E.1.2.1 dL_law_202 rfl (lv_at hl 1 rfl) ?_
  refine l_word (pc := 203) (k := 1) E hl h hL (by omega) rfl dL_law_203 dL_law_204 dL_law_205 dL_law_206 dL_law_207 ?_
  refine lv_i2c (pc := 208) (v := x_c (xs (j + 1))) E.1.1 E.1.2.1 dL_law_208 rfl ?_
  refine lr_call (na := 1) (pc := 209) (As := [.int (x_c (xs (j + 1)))]) (rest := [.int v]) E hl.1 h ⟨Nat.le_of_ble_eq_true rfl, Nat.le_of_ble_eq_true rfl⟩ cR (gV q1028 q1029 q1030 q79 q1031) (by decide +kernel) rfl ⟨Nat.le_of_ble_eq_true rfl, Nat.le_of_ble_eq_true rfl⟩ ⟨rfl, rfl⟩ dL_law_209 rfl (Nat.le_of_ble_eq_true rfl) (fun H locs h => ?_)
  exact lv_icmp_eq (pc := 212) (tgt := 1062) E.1.1 E.1.2.1 dL_law_212 (by decide) (fun _ => tail X' R' H locs hr' h) (fun hne => absurd rfl hne)
theorem L_clearText (E : LE G sK sV cA cZ cC ax ar p s m args meth c b L xs) (hl : lv_has ls 4 [(3, .int (nI j)), (2, .ref (ar 0)), (1, .ref (ax 0)), (0, .ref b)]) (h : LW G cA cZ cC ax ar X R s H locs) (hL : L ≤ 2048) (hj : j + 4 ≤ L) (hn : n ≤ 600) (hr : Rel n X R) (tail : ∀ X' R' H1 locs1, Rel (n + 1) X' R' → LW G cA cZ cC ax ar X' R' s H1 locs1 → W p l e room_1 s m args below meth c H1 locs1 85 11280 Q (F0 m 1062 ls [])) : W p l e room_1 s m args below meth c H locs 85 11280 Q (F0 m 217 ls []) := by
  obtain ⟨v, X', R', cX, cR, hr'⟩ : ∃ (v : Int32) (X' R' : Mem), XI G ax sK sV cA cZ cC yX7_clearText cX7_clearText 2 .int ({ frames := 0, cells := 0, slots := 0, locals := 0 } : Room) (.ref (ax 0) :: []) X v X' ∧ RI G ar cA cZ cC yX8_clearText cX8_clearText 2 .int ({ frames := 0, cells := 0, slots := 0, locals := 0 } : Room) (.ref (ar 0) :: []) R v R' ∧ Rel (n + 1) X' R' := by
    obtain ⟨v, X', R', a1, a2, a3⟩ := clear_ok hr
    exact ⟨v, X', R', kX7_clearText E.2.2.1 X v X' a1, kX8_clearText E.2.2.2.1 R v R' a2, a3⟩
  refine lv_aload_n (pc := 217) E.1.1 E.1.2.1 dL_law_217 rfl (lv_at hl 2 rfl) ?_
  refine lx_call (na := 0) (pc := 218) (As := []) (rest := []) E hl.1 h ⟨Nat.le_of_ble_eq_true rfl, Nat.le_of_ble_eq_true rfl⟩ cX (gV q371 q372 q373 q71 q374) (by decide +kernel) rfl ⟨Nat.le_of_ble_eq_true rfl, Nat.le_of_ble_eq_true rfl⟩ ⟨rfl, rfl⟩ dL_law_218 rfl (Nat.le_of_ble_eq_true rfl) (fun H locs h => ?_)
  refine lv_aload_n (pc := 221) E.1.1 E.1.2.1 dL_law_221 rfl (lv_at hl 1 rfl) ?_
  refine lr_call (na := 0) (pc := 222) (As := []) (rest := [.int v]) E hl.1 h ⟨Nat.le_of_ble_eq_true rfl, Nat.le_of_ble_eq_true rfl⟩ cR (gV q1032 q1033 q1034 q79 q1035) (by decide +kernel) rfl ⟨Nat.le_of_ble_eq_true rfl, Nat.le_of_ble_eq_true rfl⟩ ⟨rfl, rfl⟩ dL_law_222 rfl (Nat.le_of_ble_eq_true rfl) (fun H locs h => ?_)
  exact lv_icmp_eq (pc := 225) (tgt := 1062) E.1.1 E.1.2.1 dL_law_225 (by decide) (fun _ => tail X' R' H locs hr' h) (fun hne => absurd rfl hne)
theorem L_addBox (E : LE G sK sV cA cZ cC ax ar p s m args meth c b L xs) (hl : lv_has ls 4 [(3, .int (nI j)), (2, .ref (ar 0)), (1, .ref (ax 0)), (0, .ref b)]) (h : LW G cA cZ cC ax ar X R s H locs) (hL : L ≤ 2048) (hj : j + 4 ≤ L) (hn : n ≤ 600) (hr : Rel n X R) (tail : ∀ X' R' H1 locs1, Rel (n + 1) X' R' → LW G cA cZ cC ax ar X' R' s H1 locs1 → W p l e room_1 s m args below meth c H1 locs1 85 11280 Q (F0 m 1062 ls [])) : W p l e room_1 s m args below meth c H locs 85 11280 Q (F0 m 230 ls []) := by
  obtain ⟨v, X', R', cX, cR, hr'⟩ : ∃ (v : Int32) (X' R' : Mem), XI G ax sK sV cA cZ cC yX7_addBox cX7_addBox 4 .int ({ frames := 8, cells := 0, slots := 0, locals := 223 } : Room) (.ref (ax 0) :: []) X v X' ∧ RI G ar cA cZ cC yX8_addBox cX8_addBox 4 .int ({ frames := 5, cells := 0, slots := 0, locals := 107 } : Room) (.ref (ar 0) :: []) R v R' ∧ Rel (n + 1) X' R' := by
    obtain ⟨v, X', R', a1, a2, a3⟩ := addBox_ok hr
    exact ⟨v, X', R', kX7_addBox E.2.2.1 X v X' a1, kX8_addBox E.2.2.2.1 R v R' a2, a3⟩
  refine lv_aload_n (pc := 230) E.1.1 E.1.2.1 dL_law_230 rfl (lv_at hl 2 rfl) ?_
  refine lx_call (na := 0) (pc := 231) (As := []) (rest := []) E hl.1 h ⟨Nat.le_of_ble_eq_true rfl, Nat.le_of_ble_eq_true rfl⟩ cX (gV q375 q376 q377 q71 q378) (by decide +kernel) rfl ⟨Nat.le_of_ble_eq_true rfl, Nat.le_of_ble_eq_true rfl⟩ ⟨rfl, rfl⟩ dL_law_231 rfl (Nat.le_of_ble_eq_true rfl) (fun H locs h => ?_)
  refine lv_aload_n (pc := 234) E.1.1 E.1.2.1 dL_law_234 rfl (lv_at hl 1 rfl) ?_
  refine lr_call (na := 0) (pc := 235) (As := []) (rest := [.int v]) E hl.1 h ⟨Nat.le_of_ble_eq_true rfl, Nat.le_of_ble_eq_true rfl⟩ cR (gV q1036 q1037 q1038 q79 q1039) (by decide +kernel) rfl ⟨Nat.le_of_ble_eq_true rfl, Nat.le_of_ble_eq_true rfl⟩ ⟨rfl, rfl⟩ dL_law_235 rfl (Nat.le_of_ble_eq_true rfl) (fun H locs h => ?_)
  exact lv_icmp_eq (pc := 238) (tgt := 1062) E.1.1 E.1.2.1 dL_law_238 (by decide) (fun _ => tail X' R' H locs hr' h) (fun hne => absurd rfl hne)
theorem L_addProp (E : LE G sK sV cA cZ cC ax ar p s m args meth c b L xs) (hl : lv_has ls 4 [(3, .int (nI j)), (2, .ref (ar 0)), (1, .ref (ax 0)), (0, .ref b)]) (h : LW G cA cZ cC ax ar X R s H locs) (hL : L ≤ 2048) (hj : j + 4 ≤ L) (hn : n ≤ 600) (hr : Rel n X R) (tail : ∀ X' R' H1 locs1, Rel (n + 1) X' R' → LW G cA cZ cC ax ar X' R' s H1 locs1 → W p l e room_1 s m args below meth c H1 locs1 85 11280 Q (F0 m 1062 ls [])) : W p l e room_1 s m args below meth c H locs 85 11280 Q (F0 m 243 ls []) := by
  obtain ⟨v, X', R', cX, cR, hr'⟩ : ∃ (v : Int32) (X' R' : Mem), XI G ax sK sV cA cZ cC yX7_addProp cX7_addProp 2 .int ({ frames := 2, cells := 0, slots := 0, locals := 44 } : Room) (.ref (ax 0) :: [.int (xs (j + 1))]) X v X' ∧ RI G ar cA cZ cC yX8_addProp cX8_addProp 3 .int ({ frames := 2, cells := 0, slots := 0, locals := 43 } : Room) (.ref (ar 0) :: [.int (xs (j + 1))]) R v R' ∧ Rel (n + 1) X' R' := by
    obtain ⟨v, X', R', a1, a2, a3⟩ := s_addProp hr hn (xs (j + 1))
    exact ⟨v, X', R', kX7_addProp E.2.2.1 X (xs (j + 1)) v X' a1, kX8_addProp E.2.2.2.1 R (xs (j + 1)) v R' a2, a3⟩
  refine lv_aload_n (pc := 243) E.1.1 E.1.2.1 dL_law_243 rfl (lv_at hl 2 rfl) ?_
  refine l_word (pc := 244) (k := 1) E hl h hL (by omega) rfl dL_law_244 dL_law_245 dL_law_246 dL_law_247 dL_law_248 ?_
  refine lx_call (na := 1) (pc := 249) (As := [.int (xs (j + 1))]) (rest := []) E hl.1 h ⟨Nat.le_of_ble_eq_true rfl, Nat.le_of_ble_eq_true rfl⟩ cX (gV q472 q473 q474 q71 q475) (by decide +kernel) rfl ⟨Nat.le_of_ble_eq_true rfl, Nat.le_of_ble_eq_true rfl⟩ ⟨rfl, rfl⟩ dL_law_249 rfl (Nat.le_of_ble_eq_true rfl) (fun H locs h => ?_)
  refine lv_aload_n (pc := 252) E.1.1 E.1.2.1 dL_law_252 rfl (lv_at hl 1 rfl) ?_
  refine l_word (pc := 253) (k := 1) E hl h hL (by omega) rfl dL_law_253 dL_law_254 dL_law_255 dL_law_256 dL_law_257 ?_
  refine lr_call (na := 1) (pc := 258) (As := [.int (xs (j + 1))]) (rest := [.int v]) E hl.1 h ⟨Nat.le_of_ble_eq_true rfl, Nat.le_of_ble_eq_true rfl⟩ cR (gV q1079 q1080 q1081 q79 q1082) (by decide +kernel) rfl ⟨Nat.le_of_ble_eq_true rfl, Nat.le_of_ble_eq_true rfl⟩ ⟨rfl, rfl⟩ dL_law_258 rfl (Nat.le_of_ble_eq_true rfl) (fun H locs h => ?_)
  exact lv_icmp_eq (pc := 261) (tgt := 1062) E.1.1 E.1.2.1 dL_law_261 (by decide) (fun _ => tail X' R' H locs hr' h) (fun hne => absurd rfl hne)
theorem L_addClue (E : LE G sK sV cA cZ cC ax ar p s m args meth c b L xs) (hl : lv_has ls 4 [(3, .int (nI j)), (2, .ref (ar 0)), (1, .ref (ax 0)), (0, .ref b)]) (h : LW G cA cZ cC ax ar X R s H locs) (hL : L ≤ 2048) (hj : j + 4 ≤ L) (hn : n ≤ 600) (hr : Rel n X R) (tail : ∀ X' R' H1 locs1, Rel (n + 1) X' R' → LW G cA cZ cC ax ar X' R' s H1 locs1 → W p l e room_1 s m args below meth c H1 locs1 85 11280 Q (F0 m 1062 ls [])) : W p l e room_1 s m args below meth c H locs 85 11280 Q (F0 m 266 ls []) := by
  obtain ⟨v, X', R', cX, cR, hr'⟩ : ∃ (v : Int32) (X' R' : Mem), XI G ax sK sV cA cZ cC yX7_addClue cX7_addClue 5 .int ({ frames := 2, cells := 0, slots := 0, locals := 46 } : Room) (.ref (ax 0) :: [.int (xs (j + 1)), .int (xs (j + 2)), .int (xs (j + 3))]) X v X' ∧ RI G ar cA cZ cC yX8_addClue cX8_addClue 5 .int ({ frames := 2, cells := 0, slots := 0, locals := 43 } : Room) (.ref (ar 0) :: [.int (xs (j + 1)), .int (xs (j + 2)), .int (xs (j + 3))]) R v R' ∧ Rel (n + 1) X' R' := by
    obtain ⟨v, X', R', a1, a2, a3⟩ := s_addClue hr hn (xs (j + 1)) (xs (j + 2)) (xs (j + 3))
    exact ⟨v, X', R', kX7_addClue E.2.2.1 X (xs (j + 1)) (xs (j + 2)) (xs (j + 3)) v X' a1, kX8_addClue E.2.2.2.1 R (xs (j + 1)) (xs (j + 2)) (xs (j + 3)) v R' a2, a3⟩
  refine lv_aload_n (pc := 266) E.1.1 E.1.2.1 dL_law_266 rfl (lv_at hl 2 rfl) ?_
  refine l_word (pc := 267) (k := 1) E hl h hL (by omega) rfl dL_law_267 dL_law_268 dL_law_269 dL_law_270 dL_law_271 ?_
  refine l_word (pc := 272) (k := 2) E hl h hL (by omega) rfl dL_law_272 dL_law_273 dL_law_274 dL_law_275 dL_law_276 ?_
  refine l_word (pc := 277) (k := 3) E hl h hL (by omega) rfl dL_law_277 dL_law_278 dL_law_279 dL_law_280 dL_law_281 ?_
  refine lx_call (na := 3) (pc := 282) (As := [.int (xs (j + 1)), .int (xs (j + 2)), .int (xs (j + 3))]) (rest := []) E hl.1 h ⟨Nat.le_of_ble_eq_true rfl, Nat.le_of_ble_eq_true rfl⟩ cX (gV q480 q481 q482 q71 q483) (by decide +kernel) rfl ⟨Nat.le_of_ble_eq_true rfl, Nat.le_of_ble_eq_true rfl⟩ ⟨rfl, rfl⟩ dL_law_282 rfl (Nat.le_of_ble_eq_true rfl) (fun H locs h => ?_)
  refine lv_aload_n (pc := 285) E.1.1 E.1.2.1 dL_law_285 rfl (lv_at hl 1 rfl) ?_
  refine l_word (pc := 286) (k := 1) E hl h hL (by omega) rfl dL_law_286 dL_law_287 dL_law_288 dL_law_289 dL_law_290 ?_
  refine l_word (pc := 291) (k := 2) E hl h hL (by omega) rfl dL_law_291 dL_law_292 dL_law_293 dL_law_294 dL_law_295 ?_
  refine l_word (pc := 296) (k := 3) E hl h hL (by omega) rfl dL_law_296 dL_law_297 dL_law_298 dL_law_299 dL_law_300 ?_
  refine lr_call (na := 3) (pc := 301) (As := [.int (xs (j + 1)), .int (xs (j + 2)), .int (xs (j + 3))]) (rest := [.int v]) E hl.1 h ⟨Nat.le_of_ble_eq_true rfl, Nat.le_of_ble_eq_true rfl⟩ cR (gV q1083 q1084 q1085 q79 q1086) (by decide +kernel) rfl ⟨Nat.le_of_ble_eq_true rfl, Nat.le_of_ble_eq_true rfl⟩ ⟨rfl, rfl⟩ dL_law_301 rfl (Nat.le_of_ble_eq_true rfl) (fun H locs h => ?_)
  exact lv_icmp_eq (pc := 304) (tgt := 1062) E.1.1 E.1.2.1 dL_law_304 (by decide) (fun _ => tail X' R' H locs hr' h) (fun hne => absurd rfl hne)
theorem L_setExit (E : LE G sK sV cA cZ cC ax ar p s m args meth c b L xs) (hl : lv_has ls 4 [(3, .int (nI j)), (2, .ref (ar 0)), (1, .ref (ax 0)), (0, .ref b)]) (h : LW G cA cZ cC ax ar X R s H locs) (hL : L ≤ 2048) (hj : j + 4 ≤ L) (hn : n ≤ 600) (hr : Rel n X R) (tail : ∀ X' R' H1 locs1, Rel (n + 1) X' R' → LW G cA cZ cC ax ar X' R' s H1 locs1 → W p l e room_1 s m args below meth c H1 locs1 85 11280 Q (F0 m 1062 ls [])) : W p l e room_1 s m args below meth c H locs 85 11280 Q (F0 m 309 ls []) := by
  obtain ⟨v, X', R', cX, cR, hr'⟩ : ∃ (v : Int32) (X' R' : Mem), XI G ax sK sV cA cZ cC yX7_setExit cX7_setExit 3 .int ({ frames := 1, cells := 0, slots := 0, locals := 21 } : Room) (.ref (ax 0) :: [.int (xs (j + 1))]) X v X' ∧ RI G ar cA cZ cC yX8_setExit cX8_setExit 3 .int ({ frames := 2, cells := 0, slots := 0, locals := 43 } : Room) (.ref (ar 0) :: [.int (xs (j + 1))]) R v R' ∧ Rel (n + 1) X' R' := by
    obtain ⟨v, X', R', a1, a2, a3⟩ := s_setExit hr hn (xs (j + 1))
    exact ⟨v, X', R', kX7_setExit E.2.2.1 X (xs (j + 1)) v X' a1, kX8_setExit E.2.2.2.1 R (xs (j + 1)) v R' a2, a3⟩
  refine lv_aload_n (pc := 309) E.1.1 E.1.2.1 dL_law_309 rfl (lv_at hl 2 rfl) ?_
  refine l_word (pc := 310) (k := 1) E hl h hL (by omega) rfl dL_law_310 dL_law_311 dL_law_312 dL_law_313 dL_law_314 ?_
  refine lx_call (na := 1) (pc := 315) (As := [.int (xs (j + 1))]) (rest := []) E hl.1 h ⟨Nat.le_of_ble_eq_true rfl, Nat.le_of_ble_eq_true rfl⟩ cX (gV q493 q494 q495 q71 q496) (by decide +kernel) rfl ⟨Nat.le_of_ble_eq_true rfl, Nat.le_of_ble_eq_true rfl⟩ ⟨rfl, rfl⟩ dL_law_315 rfl (Nat.le_of_ble_eq_true rfl) (fun H locs h => ?_)
  refine lv_aload_n (pc := 318) E.1.1 E.1.2.1 dL_law_318 rfl (lv_at hl 1 rfl) ?_
  refine l_word (pc := 319) (k := 1) E hl h hL (by omega) rfl dL_law_319 dL_law_320 dL_law_321 dL_law_322 dL_law_323 ?_
  refine lr_call (na := 1) (pc := 324) (As := [.int (xs (j + 1))]) (rest := [.int v]) E hl.1 h ⟨Nat.le_of_ble_eq_true rfl, Nat.le_of_ble_eq_true rfl⟩ cR (gV q1087 q1088 q1089 q79 q1090) (by decide +kernel) rfl ⟨Nat.le_of_ble_eq_true rfl, Nat.le_of_ble_eq_true rfl⟩ ⟨rfl, rfl⟩ dL_law_324 rfl (Nat.le_of_ble_eq_true rfl) (fun H locs h => ?_)
  exact lv_icmp_eq (pc := 327) (tgt := 1062) E.1.1 E.1.2.1 dL_law_327 (by decide) (fun _ => tail X' R' H locs hr' h) (fun hne => absurd rfl hne)
theorem L_setLimits (E : LE G sK sV cA cZ cC ax ar p s m args meth c b L xs) (hl : lv_has ls 4 [(3, .int (nI j)), (2, .ref (ar 0)), (1, .ref (ax 0)), (0, .ref b)]) (h : LW G cA cZ cC ax ar X R s H locs) (hL : L ≤ 2048) (hj : j + 4 ≤ L) (hn : n ≤ 600) (hr : Rel n X R) (tail : ∀ X' R' H1 locs1, Rel (n + 1) X' R' → LW G cA cZ cC ax ar X' R' s H1 locs1 → W p l e room_1 s m args below meth c H1 locs1 85 11280 Q (F0 m 1062 ls [])) : W p l e room_1 s m args below meth c H locs 85 11280 Q (F0 m 332 ls []) := by
  obtain ⟨v, X', R', cX, cR, hr'⟩ : ∃ (v : Int32) (X' R' : Mem), XI G ax sK sV cA cZ cC yX7_setLimits cX7_setLimits 4 .int ({ frames := 0, cells := 0, slots := 0, locals := 0 } : Room) (.ref (ax 0) :: [.int (xs (j + 1)), .int (xs (j + 2))]) X v X' ∧ RI G ar cA cZ cC yX8_setLimits cX8_setLimits 5 .int ({ frames := 1, cells := 0, slots := 0, locals := 22 } : Room) (.ref (ar 0) :: [.int (xs (j + 1)), .int (xs (j + 2))]) R v R' ∧ Rel (n + 1) X' R' := by
    obtain ⟨v, X', R', a1, a2, a3⟩ := s_setLimits hr hn (xs (j + 1)) (xs (j + 2))
    exact ⟨v, X', R', kX7_setLimits E.2.2.1 X (xs (j + 1)) (xs (j + 2)) v X' a1, kX8_setLimits E.2.2.2.1 R (xs (j + 1)) (xs (j + 2)) v R' a2, a3⟩
  refine lv_aload_n (pc := 332) E.1.1 E.1.2.1 dL_law_332 rfl (lv_at hl 2 rfl) ?_
  refine l_word (pc := 333) (k := 1) E hl h hL (by omega) rfl dL_law_333 dL_law_334 dL_law_335 dL_law_336 dL_law_337 ?_
  refine l_word (pc := 338) (k := 2) E hl h hL (by omega) rfl dL_law_338 dL_law_339 dL_law_340 dL_law_341 dL_law_342 ?_
  refine lx_call (na := 2) (pc := 343) (As := [.int (xs (j + 1)), .int (xs (j + 2))]) (rest := []) E hl.1 h ⟨Nat.le_of_ble_eq_true rfl, Nat.le_of_ble_eq_true rfl⟩ cX (gV q497 q498 q499 q71 q500) (by decide +kernel) rfl ⟨Nat.le_of_ble_eq_true rfl, Nat.le_of_ble_eq_true rfl⟩ ⟨rfl, rfl⟩ dL_law_343 rfl (Nat.le_of_ble_eq_true rfl) (fun H locs h => ?_)
  refine lv_aload_n (pc := 346) E.1.1 E.1.2.1 dL_law_346 rfl (lv_at hl 1 rfl) ?_
  refine l_word (pc := 347) (k := 1) E hl h hL (by omega) rfl dL_law_347 dL_law_348 dL_law_349 dL_law_350 dL_law_351 ?_
  refine l_word (pc := 352) (k := 2) E hl h hL (by omega) rfl dL_law_352 dL_law_353 dL_law_354 dL_law_355 dL_law_356 ?_
  refine lr_call (na := 2) (pc := 357) (As := [.int (xs (j + 1)), .int (xs (j + 2))]) (rest := [.int v]) E hl.1 h ⟨Nat.le_of_ble_eq_true rfl, Nat.le_of_ble_eq_true rfl⟩ cR (gV q1091 q1092 q1093 q79 q1094) (by decide +kernel) rfl ⟨Nat.le_of_ble_eq_true rfl, Nat.le_of_ble_eq_true rfl⟩ ⟨rfl, rfl⟩ dL_law_357 rfl (Nat.le_of_ble_eq_true rfl) (fun H locs h => ?_)
  exact lv_icmp_eq (pc := 360) (tgt := 1062) E.1.1 E.1.2.1 dL_law_360 (by decide) (fun _ => tail X' R' H locs hr' h) (fun hne => absurd rfl hne)
theorem L_addPaint (E : LE G sK sV cA cZ cC ax ar p s m args meth c b L xs) (hl : lv_has ls 4 [(3, .int (nI j)), (2, .ref (ar 0)), (1, .ref (ax 0)), (0, .ref b)]) (h : LW G cA cZ cC ax ar X R s H locs) (hL : L ≤ 2048) (hj : j + 4 ≤ L) (hn : n ≤ 600) (hr : Rel n X R) (tail : ∀ X' R' H1 locs1, Rel (n + 1) X' R' → LW G cA cZ cC ax ar X' R' s H1 locs1 → W p l e room_1 s m args below meth c H1 locs1 85 11280 Q (F0 m 1062 ls [])) : W p l e room_1 s m args below meth c H locs 85 11280 Q (F0 m 365 ls []) := by
  obtain ⟨v, X', R', cX, cR, hr'⟩ : ∃ (v : Int32) (X' R' : Mem), XI G ax sK sV cA cZ cC yX7_addPaint cX7_addPaint 2 .int ({ frames := 0, cells := 0, slots := 0, locals := 0 } : Room) (.ref (ax 0) :: [.int (xs (j + 1))]) X v X' ∧ RI G ar cA cZ cC yX8_addPaint cX8_addPaint 2 .int ({ frames := 1, cells := 0, slots := 0, locals := 22 } : Room) (.ref (ar 0) :: [.int (xs (j + 1))]) R v R' ∧ Rel (n + 1) X' R' := by
    obtain ⟨v, X', R', a1, a2, a3⟩ := s_addPaint hr hn (xs (j + 1))
    exact ⟨v, X', R', kX7_addPaint E.2.2.1 X (xs (j + 1)) v X' a1, kX8_addPaint E.2.2.2.1 R (xs (j + 1)) v R' a2, a3⟩
  refine lv_aload_n (pc := 365) E.1.1 E.1.2.1 dL_law_365 rfl (lv_at hl 2 rfl) ?_
  refine l_word (pc := 366) (k := 1) E hl h hL (by omega) rfl dL_law_366 dL_law_367 dL_law_368 dL_law_369 dL_law_370 ?_
  refine lx_call (na := 1) (pc := 371) (As := [.int (xs (j + 1))]) (rest := []) E hl.1 h ⟨Nat.le_of_ble_eq_true rfl, Nat.le_of_ble_eq_true rfl⟩ cX (gV q501 q502 q503 q71 q504) (by decide +kernel) rfl ⟨Nat.le_of_ble_eq_true rfl, Nat.le_of_ble_eq_true rfl⟩ ⟨rfl, rfl⟩ dL_law_371 rfl (Nat.le_of_ble_eq_true rfl) (fun H locs h => ?_)
  refine lv_aload_n (pc := 374) E.1.1 E.1.2.1 dL_law_374 rfl (lv_at hl 1 rfl) ?_
  refine l_word (pc := 375) (k := 1) E hl h hL (by omega) rfl dL_law_375 dL_law_376 dL_law_377 dL_law_378 dL_law_379 ?_
  refine lr_call (na := 1) (pc := 380) (As := [.int (xs (j + 1))]) (rest := [.int v]) E hl.1 h ⟨Nat.le_of_ble_eq_true rfl, Nat.le_of_ble_eq_true rfl⟩ cR (gV q1095 q1096 q1097 q79 q1098) (by decide +kernel) rfl ⟨Nat.le_of_ble_eq_true rfl, Nat.le_of_ble_eq_true rfl⟩ ⟨rfl, rfl⟩ dL_law_380 rfl (Nat.le_of_ble_eq_true rfl) (fun H locs h => ?_)
  exact lv_icmp_eq (pc := 383) (tgt := 1062) E.1.1 E.1.2.1 dL_law_383 (by decide) (fun _ => tail X' R' H locs hr' h) (fun hne => absurd rfl hne)
theorem L_book (E : LE G sK sV cA cZ cC ax ar p s m args meth c b L xs) (hl : lv_has ls 4 [(3, .int (nI j)), (2, .ref (ar 0)), (1, .ref (ax 0)), (0, .ref b)]) (h : LW G cA cZ cC ax ar X R s H locs) (hL : L ≤ 2048) (hj : j + 4 ≤ L) (hn : n ≤ 600) (hr : Rel n X R) (tail : ∀ X' R' H1 locs1, Rel (n + 1) X' R' → LW G cA cZ cC ax ar X' R' s H1 locs1 → W p l e room_1 s m args below meth c H1 locs1 85 11280 Q (F0 m 1062 ls [])) : W p l e room_1 s m args below meth c H locs 85 11280 Q (F0 m 388 ls []) := by
  obtain ⟨v, X', R', cX, cR, hr'⟩ : ∃ (v : Int32) (X' R' : Mem), XI G ax sK sV cA cZ cC yX7_book cX7_book 4 .int ({ frames := 2, cells := 0, slots := 0, locals := 44 } : Room) (.ref (ax 0) :: [.int (xs (j + 1)), .int (xs (j + 2))]) X v X' ∧ RI G ar cA cZ cC yX8_book cX8_book 4 .int ({ frames := 1, cells := 0, slots := 0, locals := 22 } : Room) (.ref (ar 0) :: [.int (xs (j + 1)), .int (xs (j + 2))]) R v R' ∧ Rel (n + 1) X' R' := by
    obtain ⟨v, X', R', a1, a2, a3⟩ := s_book hr hn (xs (j + 1)) (xs (j + 2))
    exact ⟨v, X', R', kX7_book E.2.2.1 X (xs (j + 1)) (xs (j + 2)) v X' a1, kX8_book E.2.2.2.1 R (xs (j + 1)) (xs (j + 2)) v R' a2, a3⟩
  refine lv_aload_n (pc := 388) E.1.1 E.1.2.1 dL_law_388 rfl (lv_at hl 2 rfl) ?_
  refine l_word (pc := 389) (k := 1) E hl h hL (by omega) rfl dL_law_389 dL_law_390 dL_law_391 dL_law_392 dL_law_393 ?_
  refine l_word (pc := 394) (k := 2) E hl h hL (by omega) rfl dL_law_394 dL_law_395 dL_law_396 dL_law_397 dL_law_398 ?_
  refine lx_call (na := 2) (pc := 399) (As := [.int (xs (j + 1)), .int (xs (j + 2))]) (rest := []) E hl.1 h ⟨Nat.le_of_ble_eq_true rfl, Nat.le_of_ble_eq_true rfl⟩ cX (gV q505 q506 q507 q71 q508) (by decide +kernel) rfl ⟨Nat.le_of_ble_eq_true rfl, Nat.le_of_ble_eq_true rfl⟩ ⟨rfl, rfl⟩ dL_law_399 rfl (Nat.le_of_ble_eq_true rfl) (fun H locs h => ?_)
  refine lv_aload_n (pc := 402) E.1.1 E.1.2.1 dL_law_402 rfl (lv_at hl 1 rfl) ?_
  refine l_word (pc := 403) (k := 1) E hl h hL (by omega) rfl dL_law_403 dL_law_404 dL_law_405 dL_law_406 dL_law_407 ?_
  refine l_word (pc := 408) (k := 2) E hl h hL (by omega) rfl dL_law_408 dL_law_409 dL_law_410 dL_law_411 dL_law_412 ?_
  refine lr_call (na := 2) (pc := 413) (As := [.int (xs (j + 1)), .int (xs (j + 2))]) (rest := [.int v]) E hl.1 h ⟨Nat.le_of_ble_eq_true rfl, Nat.le_of_ble_eq_true rfl⟩ cR (gV q1099 q1100 q1101 q79 q1102) (by decide +kernel) rfl ⟨Nat.le_of_ble_eq_true rfl, Nat.le_of_ble_eq_true rfl⟩ ⟨rfl, rfl⟩ dL_law_413 rfl (Nat.le_of_ble_eq_true rfl) (fun H locs h => ?_)
  exact lv_icmp_eq (pc := 416) (tgt := 1062) E.1.1 E.1.2.1 dL_law_416 (by decide) (fun _ => tail X' R' H locs hr' h) (fun hne => absurd rfl hne)
theorem L_cancel (E : LE G sK sV cA cZ cC ax ar p s m args meth c b L xs) (hl : lv_has ls 4 [(3, .int (nI j)), (2, .ref (ar 0)), (1, .ref (ax 0)), (0, .ref b)]) (h : LW G cA cZ cC ax ar X R s H locs) (hL : L ≤ 2048) (hj : j + 4 ≤ L) (hn : n ≤ 600) (hr : Rel n X R) (tail : ∀ X' R' H1 locs1, Rel (n + 1) X' R' → LW G cA cZ cC ax ar X' R' s H1 locs1 → W p l e room_1 s m args below meth c H1 locs1 85 11280 Q (F0 m 1062 ls [])) : W p l e room_1 s m args below meth c H locs 85 11280 Q (F0 m 421 ls []) := by
  obtain ⟨v, X', R', cX, cR, hr'⟩ : ∃ (v : Int32) (X' R' : Mem), XI G ax sK sV cA cZ cC yX7_cancel cX7_cancel 2 .int ({ frames := 2, cells := 0, slots := 0, locals := 44 } : Room) (.ref (ax 0) :: [.int (xs (j + 1))]) X v X' ∧ RI G ar cA cZ cC yX8_cancel cX8_cancel 2 .int ({ frames := 2, cells := 0, slots := 0, locals := 43 } : Room) (.ref (ar 0) :: [.int (xs (j + 1))]) R v R' ∧ Rel (n + 1) X' R' := by
    obtain ⟨v, X', R', a1, a2, a3⟩ := s_cancel hr hn (xs (j + 1))
    exact ⟨v, X', R', kX7_cancel E.2.2.1 X (xs (j + 1)) v X' a1, kX8_cancel E.2.2.2.1 R (xs (j + 1)) v R' a2, a3⟩
  refine lv_aload_n (pc := 421) E.1.1 E.1.2.1 dL_law_421 rfl (lv_at hl 2 rfl) ?_
  refine l_word (pc := 422) (k := 1) E hl h hL (by omega) rfl dL_law_422 dL_law_423 dL_law_424 dL_law_425 dL_law_426 ?_
  refine lx_call (na := 1) (pc := 427) (As := [.int (xs (j + 1))]) (rest := []) E hl.1 h ⟨Nat.le_of_ble_eq_true rfl, Nat.le_of_ble_eq_true rfl⟩ cX (gV q519 q520 q521 q71 q522) (by decide +kernel) rfl ⟨Nat.le_of_ble_eq_true rfl, Nat.le_of_ble_eq_true rfl⟩ ⟨rfl, rfl⟩ dL_law_427 rfl (Nat.le_of_ble_eq_true rfl) (fun H locs h => ?_)
  refine lv_aload_n (pc := 430) E.1.1 E.1.2.1 dL_law_430 rfl (lv_at hl 1 rfl) ?_
  refine l_word (pc := 431) (k := 1) E hl h hL (by omega) rfl dL_law_431 dL_law_432 dL_law_433 dL_law_434 dL_law_435 ?_
  refine lr_call (na := 1) (pc := 436) (As := [.int (xs (j + 1))]) (rest := [.int v]) E hl.1 h ⟨Nat.le_of_ble_eq_true rfl, Nat.le_of_ble_eq_true rfl⟩ cR (gV q1104 q1105 q1106 q79 q1107) (by decide +kernel) rfl ⟨Nat.le_of_ble_eq_true rfl, Nat.le_of_ble_eq_true rfl⟩ ⟨rfl, rfl⟩ dL_law_436 rfl (Nat.le_of_ble_eq_true rfl) (fun H locs h => ?_)
  exact lv_icmp_eq (pc := 439) (tgt := 1062) E.1.1 E.1.2.1 dL_law_439 (by decide) (fun _ => tail X' R' H locs hr' h) (fun hne => absurd rfl hne)
theorem L_startGame (E : LE G sK sV cA cZ cC ax ar p s m args meth c b L xs) (hl : lv_has ls 4 [(3, .int (nI j)), (2, .ref (ar 0)), (1, .ref (ax 0)), (0, .ref b)]) (h : LW G cA cZ cC ax ar X R s H locs) (hL : L ≤ 2048) (hj : j + 4 ≤ L) (hn : n ≤ 600) (hr : Rel n X R) (tail : ∀ X' R' H1 locs1, Rel (n + 1) X' R' → LW G cA cZ cC ax ar X' R' s H1 locs1 → W p l e room_1 s m args below meth c H1 locs1 85 11280 Q (F0 m 1062 ls [])) : W p l e room_1 s m args below meth c H locs 85 11280 Q (F0 m 444 ls []) := by
  obtain ⟨v, X', R', cX, cR, hr'⟩ : ∃ (v : Int32) (X' R' : Mem), XI G ax sK sV cA cZ cC yX7_startGame cX7_startGame 2 .int ({ frames := 6, cells := 0, slots := 0, locals := 130 } : Room) (.ref (ax 0) :: []) X v X' ∧ RI G ar cA cZ cC yX8_startGame cX8_startGame 2 .int ({ frames := 5, cells := 0, slots := 0, locals := 110 } : Room) (.ref (ar 0) :: []) R v R' ∧ Rel (n + 1) X' R' := by
    obtain ⟨v, X', R', a1, a2, a3⟩ := s_startGame hr hn
    exact ⟨v, X', R', kX7_startGame E.2.2.1 X v X' a1, kX8_startGame E.2.2.2.1 R v R' a2, a3⟩
  refine lv_aload_n (pc := 444) E.1.1 E.1.2.1 dL_law_444 rfl (lv_at hl 2 rfl) ?_
  refine lx_call (na := 0) (pc := 445) (As := []) (rest := []) E hl.1 h ⟨Nat.le_of_ble_eq_true rfl, Nat.le_of_ble_eq_true rfl⟩ cX (gV q532 q533 q534 q71 q535) (by decide +kernel) rfl ⟨Nat.le_of_ble_eq_true rfl, Nat.le_of_ble_eq_true rfl⟩ ⟨rfl, rfl⟩ dL_law_445 rfl (Nat.le_of_ble_eq_true rfl) (fun H locs h => ?_)
  refine lv_aload_n (pc := 448) E.1.1 E.1.2.1 dL_law_448 rfl (lv_at hl 1 rfl) ?_
  refine lr_call (na := 0) (pc := 449) (As := []) (rest := [.int v]) E hl.1 h ⟨Nat.le_of_ble_eq_true rfl, Nat.le_of_ble_eq_true rfl⟩ cR (gV q1116 q1117 q1118 q79 q1119) (by decide +kernel) rfl ⟨Nat.le_of_ble_eq_true rfl, Nat.le_of_ble_eq_true rfl⟩ ⟨rfl, rfl⟩ dL_law_449 rfl (Nat.le_of_ble_eq_true rfl) (fun H locs h => ?_)
  exact lv_icmp_eq (pc := 452) (tgt := 1062) E.1.1 E.1.2.1 dL_law_452 (by decide) (fun _ => tail X' R' H locs hr' h) (fun hne => absurd rfl hne)
theorem L_take (E : LE G sK sV cA cZ cC ax ar p s m args meth c b L xs) (hl : lv_has ls 4 [(3, .int (nI j)), (2, .ref (ar 0)), (1, .ref (ax 0)), (0, .ref b)]) (h : LW G cA cZ cC ax ar X R s H locs) (hL : L ≤ 2048) (hj : j + 4 ≤ L) (hn : n ≤ 600) (hr : Rel n X R) (tail : ∀ X' R' H1 locs1, Rel (n + 1) X' R' → LW G cA cZ cC ax ar X' R' s H1 locs1 → W p l e room_1 s m args below meth c H1 locs1 85 11280 Q (F0 m 1062 ls [])) : W p l e room_1 s m args below meth c H locs 85 11280 Q (F0 m 457 ls []) := by
  obtain ⟨v, X', R', cX, cR, hr'⟩ : ∃ (v : Int32) (X' R' : Mem), XI G ax sK sV cA cZ cC yX7_take cX7_take 4 .int ({ frames := 7, cells := 0, slots := 0, locals := 209 } : Room) (.ref (ax 0) :: [.int (xs (j + 1))]) X v X' ∧ RI G ar cA cZ cC yX8_take cX8_take 2 .int ({ frames := 6, cells := 0, slots := 0, locals := 131 } : Room) (.ref (ar 0) :: [.int (xs (j + 1))]) R v R' ∧ Rel (n + 1) X' R' := by
    obtain ⟨v, X', R', a1, a2, a3⟩ := s_take hr hn (xs (j + 1))
    exact ⟨v, X', R', kX7_take E.2.2.1 X (xs (j + 1)) v X' a1, kX8_take E.2.2.2.1 R (xs (j + 1)) v R' a2, a3⟩
  refine lv_aload_n (pc := 457) E.1.1 E.1.2.1 dL_law_457 rfl (lv_at hl 2 rfl) ?_
  refine l_word (pc := 458) (k := 1) E hl h hL (by omega) rfl dL_law_458 dL_law_459 dL_law_460 dL_law_461 dL_law_462 ?_
  refine lx_call (na := 1) (pc := 463) (As := [.int (xs (j + 1))]) (rest := []) E hl.1 h ⟨Nat.le_of_ble_eq_true rfl, Nat.le_of_ble_eq_true rfl⟩ cX (gV q575 q576 q577 q71 q578) (by decide +kernel) rfl ⟨Nat.le_of_ble_eq_true rfl, Nat.le_of_ble_eq_true rfl⟩ ⟨rfl, rfl⟩ dL_law_463 rfl (Nat.le_of_ble_eq_true rfl) (fun H locs h => ?_)
  refine lv_aload_n (pc := 466) E.1.1 E.1.2.1 dL_law_466 rfl (lv_at hl 1 rfl) ?_
  refine l_word (pc := 467) (k := 1) E hl h hL (by omega) rfl dL_law_467 dL_law_468 dL_law_469 dL_law_470 dL_law_471 ?_
  refine lr_call (na := 1) (pc := 472) (As := [.int (xs (j + 1))]) (rest := [.int v]) E hl.1 h ⟨Nat.le_of_ble_eq_true rfl, Nat.le_of_ble_eq_true rfl⟩ cR (gV q1152 q1153 q1154 q79 q1155) (by decide +kernel) rfl ⟨Nat.le_of_ble_eq_true rfl, Nat.le_of_ble_eq_true rfl⟩ ⟨rfl, rfl⟩ dL_law_472 rfl (Nat.le_of_ble_eq_true rfl) (fun H locs h => ?_)
  exact lv_icmp_eq (pc := 475) (tgt := 1062) E.1.1 E.1.2.1 dL_law_475 (by decide) (fun _ => tail X' R' H locs hr' h) (fun hne => absurd rfl hne)
end LC
