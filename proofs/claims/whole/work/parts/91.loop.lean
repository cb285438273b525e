/-! the law's loop -/
section LL
variable {G : va_G} {sK sV : Nat → Nat} {cA cZ cC : ClassId} {ax ar : Nat → Nat} {L b : Nat} {xs : Nat → Int32}
variable {p : Program} {l : Launch} {e : Env} {s : State} {m : MethodId} {below : List Frame} {meth : Method} {c : Code}
theorem lt_end {L j : Nat} (hL : L ≤ 2048) (hj : j ≤ 4096) : (Int32.ofNat L - 4 < nI j) = (L < j + 4) := by
  have h1 : Int32.ofNat L = zI (L : Int) := Int32.toInt_inj.mp (by rw [show (Int32.ofNat L).toInt = (L : Int) from nI_toInt (by omega), zto (by omega) (by omega)])
  have h2 : nI j = zI (j : Int) := Int32.toInt_inj.mp (by rw [nI_toInt (by omega), zto (by omega) (by omega)])
  rw [h1, h2, zc4, zsub, zlt (by omega) (by omega) (by omega) (by omega)]
  apply propext
  omega
theorem law_switch {X R : Mem} {n j : Nat} {args : Array Value} {H : Heap} {locs : List Loc} {Q : State → Prop} {ls : Array Slot} (E : LE G sK sV cA cZ cC ax ar p s m args meth c b L xs) (hl : lv_has ls 4 [(3, .int (nI j)), (2, .ref (ar 0)), (1, .ref (ax 0)), (0, .ref b)]) (h : LW G cA cZ cC ax ar X R s H locs) (hL : L ≤ 2048) (hj : j + 4 ≤ L) (hn : n ≤ 600) (hr : Rel n X R) (tail : ∀ n' X' R' H1 locs1, n' ≤ n + 1 → Rel n' X' R' → LW G cA cZ cC ax ar X' R' s H1 locs1 → W p l e room_1 s m args below meth c H1 locs1 85 11280 Q (F0 m 1062 ls [])) (w : Int32) : W p l e room_1 s m args below meth c H locs 85 11280 Q (F0 m 32 ls [.int w]) := by
  by_cases h0 : w = 0
  · rw [h0]
    exact lv_tableIn (pc := 32) (off := 160) (tgt := 192) E.1.1 E.1.2.1 dL_law_32 (by decide) (by decide) rfl (by decide) (L_type E hl h hL hj hn hr (fun X' R' H1 locs1 a1 a2 => tail (n + 1) X' R' H1 locs1 (Nat.le_refl _) a1 a2))
  by_cases h1 : w = 1
  · rw [h1]
    exact lv_tableIn (pc := 32) (off := 185) (tgt := 217) E.1.1 E.1.2.1 dL_law_32 (by decide) (by decide) rfl (by decide) (L_clearText E hl h hL hj hn hr (fun X' R' H1 locs1 a1 a2 => tail (n + 1) X' R' H1 locs1 (Nat.le_refl _) a1 a2))
  by_cases h2 : w = 2
  · rw [h2]
    exact lv_tableIn (pc := 32) (off := 198) (tgt := 230) E.1.1 E.1.2.1 dL_law_32 (by decide) (by decide) rfl (by decide) (L_addBox E hl h hL hj hn hr (fun X' R' H1 locs1 a1 a2 => tail (n + 1) X' R' H1 locs1 (Nat.le_refl _) a1 a2))
  by_cases h3 : w = 3
  · rw [h3]
    exact lv_tableIn (pc := 32) (off := 211) (tgt := 243) E.1.1 E.1.2.1 dL_law_32 (by decide) (by decide) rfl (by decide) (L_addProp E hl h hL hj hn hr (fun X' R' H1 locs1 a1 a2 => tail (n + 1) X' R' H1 locs1 (Nat.le_refl _) a1 a2))
  by_cases h4 : w = 4
  · rw [h4]
    exact lv_tableIn (pc := 32) (off := 234) (tgt := 266) E.1.1 E.1.2.1 dL_law_32 (by decide) (by decide) rfl (by decide) (L_addClue E hl h hL hj hn hr (fun X' R' H1 locs1 a1 a2 => tail (n + 1) X' R' H1 locs1 (Nat.le_refl _) a1 a2))
  by_cases h5 : w = 5
  · rw [h5]
    exact lv_tableIn (pc := 32) (off := 277) (tgt := 309) E.1.1 E.1.2.1 dL_law_32 (by decide) (by decide) rfl (by decide) (L_setExit E hl h hL hj hn hr (fun X' R' H1 locs1 a1 a2 => tail (n + 1) X' R' H1 locs1 (Nat.le_refl _) a1 a2))
  by_cases h6 : w = 6
  · rw [h6]
    exact lv_tableIn (pc := 32) (off := 300) (tgt := 332) E.1.1 E.1.2.1 dL_law_32 (by decide) (by decide) rfl (by decide) (L_setLimits E hl h hL hj hn hr (fun X' R' H1 locs1 a1 a2 => tail (n + 1) X' R' H1 locs1 (Nat.le_refl _) a1 a2))
  by_cases h7 : w = 7
  · rw [h7]
    exact lv_tableIn (pc := 32) (off := 333) (tgt := 365) E.1.1 E.1.2.1 dL_law_32 (by decide) (by decide) rfl (by decide) (L_addPaint E hl h hL hj hn hr (fun X' R' H1 locs1 a1 a2 => tail (n + 1) X' R' H1 locs1 (Nat.le_refl _) a1 a2))
  by_cases h8 : w = 8
  · rw [h8]
    exact lv_tableIn (pc := 32) (off := 356) (tgt := 388) E.1.1 E.1.2.1 dL_law_32 (by decide) (by decide) rfl (by decide) (L_book E hl h hL hj hn hr (fun X' R' H1 locs1 a1 a2 => tail (n + 1) X' R' H1 locs1 (Nat.le_refl _) a1 a2))
  by_cases h9 : w = 9
  · rw [h9]
    exact lv_tableIn (pc := 32) (off := 389) (tgt := 421) E.1.1 E.1.2.1 dL_law_32 (by decide) (by decide) rfl (by decide) (L_cancel E hl h hL hj hn hr (fun X' R' H1 locs1 a1 a2 => tail (n + 1) X' R' H1 locs1 (Nat.le_refl _) a1 a2))
  by_cases h10 : w = 10
  · rw [h10]
    exact lv_tableIn (pc := 32) (off := 412) (tgt := 444) E.1.1 E.1.2.1 dL_law_32 (by decide) (by decide) rfl (by decide) (L_startGame E hl h hL hj hn hr (fun X' R' H1 locs1 a1 a2 => tail (n + 1) X' R' H1 locs1 (Nat.le_refl _) a1 a2))
  by_cases h11 : w = 11
  · rw [h11]
    exact lv_tableIn (pc := 32) (off := 425) (tgt := 457) E.1.1 E.1.2.1 dL_law_32 (by decide) (by decide) rfl (by decide) (L_take E hl h hL hj hn hr (fun X' R' H1 locs1 a1 a2 => tail (n + 1) X' R' H1 locs1 (Nat.le_refl _) a1 a2))
  by_cases h12 : w = 12
  · rw [h12]
    exact lv_tableIn (pc := 32) (off := 448) (tgt := 480) E.1.1 E.1.2.1 dL_law_32 (by decide) (by decide) rfl (by decide) (L_lay E hl h hL hj hn hr (fun X' R' H1 locs1 a1 a2 => tail (n + 1) X' R' H1 locs1 (Nat.le_refl _) a1 a2))
  by_cases h13 : w = 13
  · rw [h13]
    exact lv_tableIn (pc := 32) (off := 481) (tgt := 513) E.1.1 E.1.2.1 dL_law_32 (by decide) (by decide) rfl (by decide) (L_open E hl h hL hj hn hr (fun X' R' H1 locs1 a1 a2 => tail (n + 1) X' R' H1 locs1 (Nat.le_refl _) a1 a2))
  by_cases h14 : w = 14
  · rw [h14]
    exact lv_tableIn (pc := 32) (off := 514) (tgt := 546) E.1.1 E.1.2.1 dL_law_32 (by decide) (by decide) rfl (by decide) (L_read E hl h hL hj hn hr (fun X' R' H1 locs1 a1 a2 => tail (n + 1) X' R' H1 locs1 (Nat.le_refl _) a1 a2))
  by_cases h15 : w = 15
  · rw [h15]
    exact lv_tableIn (pc := 32) (off := 537) (tgt := 569) E.1.1 E.1.2.1 dL_law_32 (by decide) (by decide) rfl (by decide) (L_rest E hl h hL hj hn hr (fun X' R' H1 locs1 a1 a2 => tail (n + 1) X' R' H1 locs1 (Nat.le_refl _) a1 a2))
  by_cases h16 : w = 16
  · rw [h16]
    exact lv_tableIn (pc := 32) (off := 560) (tgt := 592) E.1.1 E.1.2.1 dL_law_32 (by decide) (by decide) rfl (by decide) (L_nudge E hl h hL hj hn hr (fun X' R' H1 locs1 a1 a2 => tail (n + 1) X' R' H1 locs1 (Nat.le_refl _) a1 a2))
  by_cases h17 : w = 17
  · rw [h17]
    exact lv_tableIn (pc := 32) (off := 573) (tgt := 605) E.1.1 E.1.2.1 dL_law_32 (by decide) (by decide) rfl (by decide) (L_giveUp E hl h hL hj hn hr (fun X' R' H1 locs1 a1 a2 => tail (n + 1) X' R' H1 locs1 (Nat.le_refl _) a1 a2))
  by_cases h18 : w = 18
  · rw [h18]
    exact lv_tableIn (pc := 32) (off := 586) (tgt := 618) E.1.1 E.1.2.1 dL_law_32 (by decide) (by decide) rfl (by decide) (L_idle E hl h hL hj hn hr (fun X' R' H1 locs1 a1 a2 => tail (n + 1) X' R' H1 locs1 (Nat.le_refl _) a1 a2))
  by_cases h19 : w = 19
  · rw [h19]
    exact lv_tableIn (pc := 32) (off := 609) (tgt := 641) E.1.1 E.1.2.1 dL_law_32 (by decide) (by decide) rfl (by decide) (L_putHome E hl h hL hj hn hr (fun X' R' H1 locs1 a1 a2 => tail (n + 1) X' R' H1 locs1 (Nat.le_refl _) a1 a2))
  by_cases h20 : w = 20
  · rw [h20]
    exact lv_tableIn (pc := 32) (off := 632) (tgt := 664) E.1.1 E.1.2.1 dL_law_32 (by decide) (by decide) rfl (by decide) (L_close E hl h hL hj hn hr (fun X' R' H1 locs1 a1 a2 => tail (n + 1) X' R' H1 locs1 (Nat.le_refl _) a1 a2))
  by_cases h21 : w = 21
  · rw [h21]
    exact lv_tableIn (pc := 32) (off := 655) (tgt := 687) E.1.1 E.1.2.1 dL_law_32 (by decide) (by decide) rfl (by decide) (L_writeOver E hl h hL hj hn hr (fun X' R' H1 locs1 a1 a2 => tail (n + 1) X' R' H1 locs1 (Nat.le_refl _) a1 a2))
  by_cases h22 : w = 22
  · rw [h22]
    exact lv_tableIn (pc := 32) (off := 678) (tgt := 710) E.1.1 E.1.2.1 dL_law_32 (by decide) (by decide) rfl (by decide) (L_reset E hl h hL hj hn hr (fun X' R' H1 locs1 a1 a2 => tail (n + 1) X' R' H1 locs1 (Nat.le_refl _) a1 a2))
  by_cases h23 : w = 23
  · rw [h23]
    exact lv_tableIn (pc := 32) (off := 691) (tgt := 723) E.1.1 E.1.2.1 dL_law_32 (by decide) (by decide) rfl (by decide) (L_keep E hl h hL hj hn hr (fun X' R' H1 locs1 a1 a2 => tail (n + 1) X' R' H1 locs1 (Nat.le_refl _) a1 a2))
  by_cases h24 : w = 24
  · rw [h24]
    exact lv_tableIn (pc := 32) (off := 714) (tgt := 746) E.1.1 E.1.2.1 dL_law_32 (by decide) (by decide) rfl (by decide) (L_restore E hl h hL hj hn hr (fun X' R' H1 locs1 a1 a2 => tail (n + 1) X' R' H1 locs1 (Nat.le_refl _) a1 a2))
  by_cases h25 : w = 25
  · rw [h25]
    exact lv_tableIn (pc := 32) (off := 737) (tgt := 769) E.1.1 E.1.2.1 dL_law_32 (by decide) (by decide) rfl (by decide) (L_box E hl h hL hj hn hr (fun X' R' H1 locs1 a1 a2 => tail (n + 1) X' R' H1 locs1 (Nat.le_refl _) a1 a2))
  by_cases h26 : w = 26
  · rw [h26]
    exact lv_tableIn (pc := 32) (off := 770) (tgt := 802) E.1.1 E.1.2.1 dL_law_32 (by decide) (by decide) rfl (by decide) (L_prop E hl h hL hj hn hr (fun X' R' H1 locs1 a1 a2 => tail (n + 1) X' R' H1 locs1 (Nat.le_refl _) a1 a2))
  by_cases h27 : w = 27
  · rw [h27]
    exact lv_tableIn (pc := 32) (off := 803) (tgt := 835) E.1.1 E.1.2.1 dL_law_32 (by decide) (by decide) rfl (by decide) (L_clue E hl h hL hj hn hr (fun X' R' H1 locs1 a1 a2 => tail (n + 1) X' R' H1 locs1 (Nat.le_refl _) a1 a2))
  by_cases h28 : w = 28
  · rw [h28]
    exact lv_tableIn (pc := 32) (off := 836) (tgt := 868) E.1.1 E.1.2.1 dL_law_32 (by decide) (by decide) rfl (by decide) (L_game E hl h hL hj hn hr (fun X' R' H1 locs1 a1 a2 => tail (n + 1) X' R' H1 locs1 (Nat.le_refl _) a1 a2))
  by_cases h29 : w = 29
  · rw [h29]
    exact lv_tableIn (pc := 32) (off := 859) (tgt := 891) E.1.1 E.1.2.1 dL_law_32 (by decide) (by decide) rfl (by decide) (L_group E hl h hL hj hn hr (fun X' R' H1 locs1 a1 a2 => tail (n + 1) X' R' H1 locs1 (Nat.le_refl _) a1 a2))
  by_cases h30 : w = 30
  · rw [h30]
    exact lv_tableIn (pc := 32) (off := 892) (tgt := 924) E.1.1 E.1.2.1 dL_law_32 (by decide) (by decide) rfl (by decide) (L_result E hl h hL hj hn hr (fun X' R' H1 locs1 a1 a2 => tail (n + 1) X' R' H1 locs1 (Nat.le_refl _) a1 a2))
  by_cases h31 : w = 31
  · rw [h31]
    exact lv_tableIn (pc := 32) (off := 925) (tgt := 957) E.1.1 E.1.2.1 dL_law_32 (by decide) (by decide) rfl (by decide) (L_nextStep E hl h hL hj hn hr (fun X' R' H1 locs1 a1 a2 => tail (n + 1) X' R' H1 locs1 (Nat.le_refl _) a1 a2))
  by_cases h32 : w = 32
  · rw [h32]
    exact lv_tableIn (pc := 32) (off := 938) (tgt := 970) E.1.1 E.1.2.1 dL_law_32 (by decide) (by decide) rfl (by decide) (L_plan E hl h hL hj hn hr (fun X' R' H1 locs1 a1 a2 => tail (n + 1) X' R' H1 locs1 (Nat.le_refl _) a1 a2))
  by_cases h33 : w = 33
  · rw [h33]
    exact lv_tableIn (pc := 32) (off := 961) (tgt := 993) E.1.1 E.1.2.1 dL_law_32 (by decide) (by decide) rfl (by decide) (L_differences E hl h hL hj hn hr (fun X' R' H1 locs1 a1 a2 => tail (n + 1) X' R' H1 locs1 (Nat.le_refl _) a1 a2))
  by_cases h34 : w = 34
  · rw [h34]
    exact lv_tableIn (pc := 32) (off := 984) (tgt := 1016) E.1.1 E.1.2.1 dL_law_32 (by decide) (by decide) rfl (by decide) (L_logAt E hl h hL hj hn hr (fun X' R' H1 locs1 a1 a2 => tail (n + 1) X' R' H1 locs1 (Nat.le_refl _) a1 a2))
  by_cases h35 : w = 35
  · rw [h35]
    exact lv_tableIn (pc := 32) (off := 1007) (tgt := 1039) E.1.1 E.1.2.1 dL_law_32 (by decide) (by decide) rfl (by decide) (L_count E hl h hL hj hn hr (fun X' R' H1 locs1 a1 a2 => tail (n + 1) X' R' H1 locs1 (Nat.le_refl _) a1 a2))
  have hout : w.toInt < 0 ∨ 35 < w.toInt := by
    have g0 := ne_lit (x := w) (z := 0) (k := 0) rfl h0
    have g1 := ne_lit (x := w) (z := 1) (k := 1) rfl h1
    have g2 := ne_lit (x := w) (z := 2) (k := 2) rfl h2
    have g3 := ne_lit (x := w) (z := 3) (k := 3) rfl h3
    have g4 := ne_lit (x := w) (z := 4) (k := 4) rfl h4
    have g5 := ne_lit (x := w) (z := 5) (k := 5) rfl h5
    have g6 := ne_lit (x := w) (z := 6) (k := 6) rfl h6
    have g7 := ne_lit (x := w) (z := 7) (k := 7) rfl h7
    have g8 := ne_lit (x := w) (z := 8) (k := 8) rfl h8
    have g9 := ne_lit (x := w) (z := 9) (k := 9) rfl h9
    have g10 := ne_lit (x := w) (z := 10) (k := 10) rfl h10
    have g11 := ne_lit (x := w) (z := 11) (k := 11) rfl h11
    have g12 := ne_lit (x := w) (z := 12) (k := 12) rfl h12
    have g13 := ne_lit (x := w) (z := 13) (k := 13) rfl h13
    have g14 := ne_lit (x := w) (z := 14) (k := 14) rfl h14
    have g15 := ne_lit (x := w) (z := 15) (k := 15) rfl h15
    have g16 := ne_lit (x := w) (z := 16) (k := 16) rfl h16
    have g17 := ne_lit (x := w) (z := 17) (k := 17) rfl h17
    have g18 := ne_lit (x := w) (z := 18) (k := 18) rfl h18
    have g19 := ne_lit (x := w) (z := 19) (k := 19) rfl h19
    have g20 := ne_lit (x := w) (z := 20) (k := 20) rfl h20
    have g21 := ne_lit (x := w) (z := 21) (k := 21) rfl h21
    have g22 := ne_lit (x := w) (z := 22) (k := 22) rfl h22
    have g23 := ne_lit (x := w) (z := 23) (k := 23) rfl h23
    have g24 := ne_lit (x := w) (z := 24) (k := 24) rfl h24
    have g25 := ne_lit (x := w) (z := 25) (k := 25) rfl h25
    have g26 := ne_lit (x := w) (z := 26) (k := 26) rfl h26
    have g27 := ne_lit (x := w) (z := 27) (k := 27) rfl h27
    have g28 := ne_lit (x := w) (z := 28) (k := 28) rfl h28
    have g29 := ne_lit (x := w) (z := 29) (k := 29) rfl h29
    have g30 := ne_lit (x := w) (z := 30) (k := 30) rfl h30
    have g31 := ne_lit (x := w) (z := 31) (k := 31) rfl h31
    have g32 := ne_lit (x := w) (z := 32) (k := 32) rfl h32
    have g33 := ne_lit (x := w) (z := 33) (k := 33) rfl h33
    have g34 := ne_lit (x := w) (z := 34) (k := 34) rfl h34
    have g35 := ne_lit (x := w) (z := 35) (k := 35) rfl h35
    omega
  exact lv_tableOut (pc := 32) (tgt := 1062) E.1.1 E.1.2.1 dL_law_32 hout (by decide) (tail n X R H locs (Nat.le_succ n) hr h)
theorem law_loop (hL : L ≤ 2048) (E : LE G sK sV cA cZ cC ax ar p s m #[Value.ref b] meth c b L xs) : ∀ (k j n : Nat) (X R : Mem) (H : Heap) (locs : List Loc) (ls : Array Slot), L + 4 ≤ j + k → j ≤ L + 3 → 4 * n ≤ j → Rel n X R → LW G cA cZ cC ax ar X R s H locs → lv_has ls 4 [(3, .int (nI j)), (2, .ref (ar 0)), (1, .ref (ax 0)), (0, .ref b)] → W p l e room_1 s m #[Value.ref b] below meth c H locs 85 11280 (lw_Z below #[Value.ref b] s) (F0 m 18 ls []) := by
  intro k
  induction k with
  | zero =>
    intro j n X R H locs ls hk hj
    omega
  | succ k ih =>
    intro j n X R H locs ls hk hj hn hr h hl
    have hx := E.1.1
    have hb := E.1.2.1
    have hX := E.2.2.2.2.2.2.2.1
    have hbl := E.2.2.2.2.2.2.2.2
    refine lv_iload_n (pc := 18) hx hb dL_law_18 rfl (lv_at hl 0 rfl) ?_
    refine lv_aload_n (pc := 19) hx hb dL_law_19 rfl (lv_at hl 3 rfl) ?_
    refine va_slen (pc := 20) hx hb hX hbl (Nat.not_le.mpr hbl) h.2.2 dL_law_20 ?_
    refine lv_iconst (v := 4) (pc := 21) hx hb dL_law_21 (by decide) ?_
    refine lv_isub (pc := 22) hx hb dL_law_22 ?_
    refine lv_icmp_gt (pc := 23) (tgt := 1068) hx hb dL_law_23 (by decide) (fun c1 => ?_) (fun c1 => ?_)
    · refine lv_iconst (v := 1) (pc := 1068) hx hb dL_law_1068 (by decide) ?_
      exact va_forget (fun q hq => h.2.2.2.2 q hq) (lw_ret (pc := 1069) hx hb E.1.2.2.2.1 E.1.2.2.2.2.1 dL_law_1069)
    · rw [lt_end hL (by omega)] at c1
      have hj4 : j + 4 ≤ L := by omega
      refine lv_aload_n (pc := 26) hx hb dL_law_26 rfl (lv_at hl 3 rfl) ?_
      refine lv_iload_n (pc := 27) hx hb dL_law_27 rfl (lv_at hl 0 rfl) ?_
      refine va_sld (pc := 28) hx hb hX hbl (Nat.not_le.mpr hbl) h.2.2 (nI_in (show j < L by omega) (by omega)) dL_law_28 ?_
      refine lv_bipush (v := 63) (pc := 29) hx hb dL_law_29 (by decide) ?_
      refine lv_iand (pc := 31) hx hb dL_law_31 ?_
      refine law_switch E hl h hL hj4 (by omega) hr (fun n' X' R' H1 locs1 hn' hr' h' => ?_) _
      refine lv_iinc (pc := 1062) (k := 0) (v := nI (j + 4)) (lv' := [(3, .int (nI (j + 4))), (2, .ref (ar 0)), (1, .ref (ax 0)), (0, .ref b)]) hx hb dL_law_1062 hl rfl (by rw [show Int32.ofInt 4 = nI 4 from rfl, nI_add]) (by decide) rfl (fun ls hl => ?_)
      refine lv_goto (pc := 1065) (tgt := 18) hx hb dL_law_1065 (by decide) ?_
      exact ih (j + 4) n' X' R' H1 locs1 ls (by omega) (by omega) (by omega) hr' h' hl
end LL
