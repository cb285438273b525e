/-! the law, from its entry -/
set_option maxHeartbeats 4000000 in
theorem whole_start {p : Program} {e : Env} {s : State} {m : MethodId} {below : List Frame} {meth : Method} {c : Code} (l : Launch) (hflags : l.flags = flags0) {b L : Nat} {xs : Nat → Int32} (hL : L ≤ 2048) (C0 : lw_At p s m meth c b L xs) : W p l e room_1 s m #[Value.ref b] below meth c s.heap [] 0 0 (lw_Z below #[Value.ref b] s) (entryFrame m ([Value.ref b] : List Value).toArray 4) := by
  obtain ⟨hx, hb, hr, hml, hown, hts, hX, hbl, hlocks, hgv⟩ := id C0
  have htb : ∀ w ∈ TB, w.before #[Value.ref b] s = true := fun w hw => hts w (List.mem_filter.mp hw).1
  obtain ⟨G, cA, cZ, cC, hK⟩ := known_s htb
  obtain ⟨sK, sV, hE⟩ := world_s hts (flat_of_before _ hgv)
  have E0 : EN G (TY cA cZ cC) p s m #[Value.ref b] meth c RL code 4 ret := ⟨hx, hb, hml, hr, hlocks, hown, htb, hK, nest_s hts, fun i j hi => absurd hi (Nat.not_lt_zero _)⟩
  have hA : ∀ q : Nat, s.heap.size ≤ q → (fun q : Nat => s.heap.size ≤ q) q := fun _ h => h
  have hS : va_S (fun q : Nat => s.heap.size ≤ q) s.heap s.heap [] := va_S.rf
  have hP : va_P G vwCl [] s.heap := fun k q h => by simp at h
  have hD : va_D (fun q : Nat => s.heap.size ≤ q) [] := ⟨fun i j p q h => by simp at h, fun k q h => by simp at h⟩
  have hl := lv_entry ([.ref b]) (n := 4) (Nat.le_of_ble_eq_true rfl)
  rw [lg_entry_eq]
  generalize (lg_sl ([.ref b]) ++ List.replicate (4 - (lg_sl ([.ref b])).length) Slot.unset).toArray = ls at hl ⊢
  have hl : lv_has ls 4 [(0, .ref b)] := hl
  refine x_mk (pc := 0) (ci := 7) (C := RX7) (T := TX7) (NN := 6) E0 hl.1 hP hD hS hA (i_X7 (G := G) (cA := cA) (cZ := cZ) (cC := cC)) rfl inX7 tyX7 tyX7_ok q86 q87 q71 (fun j hj => by rcases (show j = 0 ∨ j = 1 ∨ j = 2 ∨ j = 3 ∨ j = 4 ∨ j = 5 by omega) with rfl | rfl | rfl | rfl | rfl | rfl <;> rfl) (Nat.le_of_ble_eq_true rfl) (Nat.le_of_ble_eq_true rfl) (Or.inr (cwI 0 htb (gC q90) rfl rfl rfl (htb _ q71) (htb _ q88) (htb _ q89) rfl (by decide +kernel) ⟨Nat.le_of_ble_eq_true rfl, Nat.le_of_ble_eq_true rfl⟩)) dL_law_0 dL_law_3 dL_law_4 (Nat.le_of_ble_eq_true rfl) (fun ax H locs hP hD hS => ?_)
  refine W.widen (k := 78) (n := 7612) (Nat.le_of_ble_eq_true rfl) (Nat.le_of_ble_eq_true rfl) ?_
  have hP : va_P G vwCl (WW 78 (shX cA ax) ax exX) H := hP
  have hD : va_D (fun q : Nat => s.heap.size ≤ q) (WW 78 (shX cA ax) ax exX) := hD
  refine lv_astore_n (lv' := [(1, .ref (ax 0)), (0, .ref b)]) (pc := 7) hx hb dL_law_7 rfl hl (by decide) rfl (fun ls hl => ?_)
  refine x_mk (pc := 8) (ci := 8) (C := RX8) (T := TX8) (NN := 14) E0 hl.1 hP hD hS hA (i_X8 (G := G) (cA := cA) (cZ := cZ) (cC := cC)) rfl inX8 tyX8 tyX8_ok q966 q967 q79 (fun j hj => by rcases (show j = 0 ∨ j = 1 ∨ j = 2 ∨ j = 3 ∨ j = 4 ∨ j = 5 ∨ j = 6 ∨ j = 7 ∨ j = 8 ∨ j = 9 ∨ j = 10 ∨ j = 11 ∨ j = 12 ∨ j = 13 by omega) with rfl | rfl | rfl | rfl | rfl | rfl | rfl | rfl | rfl | rfl | rfl | rfl | rfl | rfl <;> rfl) (Nat.le_of_ble_eq_true rfl) (Nat.le_of_ble_eq_true rfl) (Or.inr (cwI 0 htb (gC q970) rfl rfl rfl (htb _ q79) (htb _ q968) (htb _ q969) rfl (by decide +kernel) ⟨Nat.le_of_ble_eq_true rfl, Nat.le_of_ble_eq_true rfl⟩)) dL_law_8 dL_law_11 dL_law_12 (Nat.le_of_ble_eq_true rfl) (fun ar H locs hP hD hS => ?_)
  refine W.widen (k := 85) (n := 11280) (Nat.le_of_ble_eq_true rfl) (Nat.le_of_ble_eq_true rfl) ?_
  refine lv_astore_n (lv' := [(2, .ref (ar 0)), (1, .ref (ax 0)), (0, .ref b)]) (pc := 15) hx hb dL_law_15 rfl hl (by decide) rfl (fun ls hl => ?_)
  refine lv_iconst (v := 0) (pc := 16) hx hb dL_law_16 (by decide) ?_
  refine lv_istore_n (lv' := [(3, .int 0), (2, .ref (ar 0)), (1, .ref (ax 0)), (0, .ref b)]) (pc := 17) hx hb dL_law_17 rfl hl (by decide) rfl (fun ls hl => ?_)
  have hlen : (WW 78 (shX cA ax) ax exX).length = 78 := by simp [WW]
  have hx1 : ∀ (k : Nat) (q : Nat × va_E), (WW 78 (shX cA ax) ax exX)[k]? = some q → (WW 78 (shX cA ax) ax exX ++ WW 7 (shR cA cZ cC ar) ar inR)[k]? = some q := fun k q hq => by
    rw [List.getElem?_append_left (List.getElem?_eq_some_iff.mp hq).1]; exact hq
  have hr1 : ∀ (k : Nat) (q : Nat × va_E), (WW 7 (shR cA cZ cC ar) ar inR)[k]? = some q → (WW 78 (shX cA ax) ax exX ++ WW 7 (shR cA cZ cC ar) ar inR)[78 + k]? = some q := fun k q hq => by
    rw [List.getElem?_append_right (by rw [hlen]; omega), hlen, show 78 + k - 78 = k by omega]; exact hq
  have hax : ∀ i, i < 78 → s.heap.size ≤ ax i := fun i hi => hD.2 i _ (hx1 i _ (WW_get hi))
  have E : LE G sK sV cA cZ cC ax ar p s m #[Value.ref b] meth c b L xs :=
    ⟨E0, hE ax hax, fun i j hi hj he => hD.1 i j _ _ (hx1 i _ (WW_get hi)) (hx1 j _ (WW_get hj)) he, fun i j hi hj he => by
      have := hD.1 (78 + i) (78 + j) _ _ (hr1 i _ (WW_get hi)) (hr1 j _ (WW_get hj)) he
      omega, fun i j hi hj he => by
      have := hD.1 i (78 + j) _ _ (hx1 i _ (WW_get hi)) (hr1 j _ (WW_get hj)) he
      omega, hax, fun j hj => hD.2 (78 + j) _ (hr1 j _ (WW_get hj)), hX, hbl⟩
  exact law_loop hL E (L + 4) 0 0 exX inR H _ ls (by omega) (by omega) (by omega) rel_s ⟨fun k q hq => hP k q (hx1 k q hq), fun k q hq => hP (78 + k) q (hr1 k q hq), hS⟩ hl
