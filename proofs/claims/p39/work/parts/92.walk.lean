/-! the law, from its entry -/
set_option maxHeartbeats 4000000 in
theorem whole_start {p : Program} {e : Env} {s : State} {m : MethodId} {below : List Frame} {meth : Method} {c : Code} (l : Launch) (hflags : l.flags = flags0) {b L : Nat} {xs : Nat → Int32} (hL : L ≤ 260) (C0 : lw_At p s m meth c b L xs) : W p l e room_1 s m #[Value.ref b] below meth c s.heap [] 0 0 (lw_Z below #[Value.ref b] s) (entryFrame m ([Value.ref b] : List Value).toArray 6) := by
  obtain ⟨hx, hb, hr, hml, hown, hts, hX, hbl, hlocks, hgv⟩ := id C0
  have htb : ∀ w ∈ TB, w.before #[Value.ref b] s = true := fun w hw => hts w (List.mem_filter.mp hw).1
  obtain ⟨G, cA, cZ, cC, hK⟩ := known_s htb
  obtain ⟨sK, sV, hE⟩ := world_s hts (flat_of_before _ hgv)
  obtain ⟨Inv, O⟩ := owed_ok
  have E0 : EN G (TY cA cZ cC) p s m #[Value.ref b] meth c RL code 6 ret := ⟨hx, hb, hml, hr, hlocks, hown, htb, hK, nest_s hts, fun i j hi => absurd hi (Nat.not_lt_zero _)⟩
  have hA : ∀ q : Nat, s.heap.size ≤ q → (fun q : Nat => s.heap.size ≤ q) q := fun _ h => h
  have hS : va_S (fun q : Nat => s.heap.size ≤ q) s.heap s.heap [] := va_S.rf
  have hP : va_P G vwCl [] s.heap := fun k q h => by simp at h
  have hD : va_D (fun q : Nat => s.heap.size ≤ q) [] := ⟨fun i j p q h => by simp at h, fun k q h => by simp at h⟩
  have hl := lv_entry ([.ref b]) (n := 6) (Nat.le_of_ble_eq_true rfl)
  rw [lg_entry_eq]
  generalize (lg_sl ([.ref b]) ++ List.replicate (6 - (lg_sl ([.ref b])).length) Slot.unset).toArray = ls at hl ⊢
  have hl : lv_has ls 6 [(0, .ref b)] := hl
  refine x_mk (pc := 0) (ci := 7) (C := RX7) (T := TX7) (NN := 6) E0 hl.1 hP hD hS hA (i_X7 (G := G) (cA := cA) (cZ := cZ) (cC := cC)) rfl inX7 tyX7 tyX7_ok q31 q32 q17 (fun j hj => by rcases (show j = 0 ∨ j = 1 ∨ j = 2 ∨ j = 3 ∨ j = 4 ∨ j = 5 by omega) with rfl | rfl | rfl | rfl | rfl | rfl <;> rfl) (Nat.le_of_ble_eq_true rfl) (Nat.le_of_ble_eq_true rfl) (Or.inr (cwI 0 htb (gC q35) rfl rfl rfl (htb _ q17) (htb _ q33) (htb _ q34) rfl (by decide +kernel) ⟨Nat.le_of_ble_eq_true rfl, Nat.le_of_ble_eq_true rfl⟩)) dL_law_0 dL_law_3 dL_law_4 (Nat.le_of_ble_eq_true rfl) (fun ax H locs hP hD hS => ?_)
  refine W.widen (k := 78) (n := 7612) (Nat.le_of_ble_eq_true rfl) (Nat.le_of_ble_eq_true rfl) ?_
  have hP : va_P G vwCl (WW 78 (shX cA ax) ax exX) H := hP
  have hD : va_D (fun q : Nat => s.heap.size ≤ q) (WW 78 (shX cA ax) ax exX) := hD
  refine lv_astore_n (lv' := [(1, .ref (ax 0)), (0, .ref b)]) (pc := 7) hx hb dL_law_7 rfl hl (by decide) rfl (fun ls hl => ?_)
  have hax : ∀ i, i < 78 → s.heap.size ≤ ax i := fun i hi => hD.2 i _ (WW_get hi)
  have E : LE G sK sV cA cZ cC ax p s m #[Value.ref b] meth c b L xs :=
    ⟨E0, hE ax hax, fun i j hi hj he => hD.1 i j _ _ (WW_get hi) (WW_get hj) he, hax, hX, hbl⟩
  have h : LW G cA cZ cC ax exX s H locs := ⟨hP, hS⟩
  refine lv_aload_n (pc := 8) hx hb dL_law_8 rfl (lv_at hl 0 rfl) ?_
  refine lx_call (na := 0) (pc := 9) (As := []) (rest := []) E hl.1 h ⟨Nat.le_of_ble_eq_true rfl, Nat.le_of_ble_eq_true rfl⟩ (kX7_nextStep E.2.2.1 exX (-4) O.1.2.1) (gV q311 q312 q313 q17 q314) (by decide +kernel) rfl ⟨Nat.le_of_ble_eq_true rfl, Nat.le_of_ble_eq_true rfl⟩ ⟨rfl, rfl⟩ dL_law_9 rfl (Nat.le_of_ble_eq_true rfl) (fun H locs h => ?_)
  refine lv_bipush (v := -4) (pc := 12) hx hb dL_law_12 (by decide) ?_
  refine lv_icmp_ne (pc := 14) (tgt := 27) hx hb dL_law_14 (by decide) (fun z => absurd rfl z) (fun _ => ?_)
  refine lv_aload_n (pc := 17) hx hb dL_law_17 rfl (lv_at hl 0 rfl) ?_
  refine lv_iconst (v := 1) (pc := 18) hx hb dL_law_18 (by decide) ?_
  refine lx_call (na := 1) (pc := 19) (As := [.int 1]) (rest := []) E hl.1 h ⟨Nat.le_of_ble_eq_true rfl, Nat.le_of_ble_eq_true rfl⟩ (kX7_plan E.2.2.1 exX 1 (-4) exX O.1.2.2) (gV q372 q373 q374 q17 q375) (by decide +kernel) rfl ⟨Nat.le_of_ble_eq_true rfl, Nat.le_of_ble_eq_true rfl⟩ ⟨rfl, rfl⟩ dL_law_19 rfl (Nat.le_of_ble_eq_true rfl) (fun H locs h => ?_)
  refine lv_bipush (v := -4) (pc := 22) hx hb dL_law_22 (by decide) ?_
  refine lv_icmp_eq (pc := 24) (tgt := 29) hx hb dL_law_24 (by decide) (fun _ => ?_) (fun z => absurd rfl z)
  refine lv_iconst (v := 0) (pc := 29) hx hb dL_law_29 (by decide) ?_
  refine lv_istore_n (lv' := [(2, .int (nI 0)), (1, .ref (ax 0)), (0, .ref b)]) (pc := 30) hx hb dL_law_30 rfl hl (by decide) rfl (fun ls hl => ?_)
  exact law_loop O hL E 34 0 exX H locs ls rfl O.1.1 h hl
