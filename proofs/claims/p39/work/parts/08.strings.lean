def strLen (j : Nat) : Int32 := Int32.ofNat (lenS.getD j 0)
def strAt (j : Nat) (i : Int32) : Option Int32 := if inb i (lenS.getD j 0) = true then some ((bytS.getD j []).getD i.toNatClampNeg 0) else none
theorem strLen_sh : ∀ j, j < 13 → strLen j >>> ((0 : Int32) &&& 31) = strLen j := by decide +kernel
theorem strLen_sz : ∀ j, j < 13 → lenS.getD j 0 < 2 ^ 31 := by decide +kernel
theorem strBytes : ∀ j, j < 13 → ∀ k, k < lenS.getD j 0 → ((((bytS.getD j []).getD k 0) &&& 255).toUInt32 % 65536).toInt32 = (bytS.getD j []).getD k 0 ∧ narrow .char (.int ((bytS.getD j []).getD k 0)) = .int ((bytS.getD j []).getD k 0) := by decide +kernel
section XT
variable {G : va_G} {tys : List (ClassId × FieldType)} {N : Nat} {sh : Nat → (Nat → Int32) → va_E} {ad sK sV : Nat → Nat} {M : Mem}
variable {p : Program} {l : Launch} {e : Env} {R : Room} {s : State} {m : MethodId} {args : Array Value} {below : List Frame} {meth : Method} {c : Code} {H : Heap} {locs : List Loc} {Q : State → Prop}
variable {own : String} {b : ByteArray} {n : Nat} {ret : Option FieldType} {pc : Nat} {ls : Array Slot} {rest : List Value}
theorem x_callTi {y : MethodName} {b' : ByteArray} {n' : Nat} {ty : FieldType} {rm : Room} {As : List Value} {v : Int32} {M' : Mem} {j idx na : Nat} {st : List Value}
    (E : EV G tys (ExX ad sK sV) 78 ad p s m args meth c own b n ret) (hEx : ExOK (ExX ad sK sV) 78 ad) (hl : ls.size = n) (hP : va_P G vwCl (WW 78 sh ad M) H) (hS : va_S (AW 78 ad) s.heap H locs)
    (hC : CI G tys (ExX ad sK sV) 78 sh ad y b' n' ty rm (.ref (sK j) :: As) M v M') (hG : GoodIn TB (wsV own idx RJ0 y (.code y b' n' (some ty) :: TB)))
    (hd : y.cls = RJ0 ∧ y.cls ≠ "java/lang/invoke/MethodHandle" ∧ y.cls ≠ "java/lang/invoke/VarHandle" ∧ (parseMethodDescriptor y.desc).map (fun d => d.parameters.length) = some na) (hna : As.length = na)
    (hj : j < 13) (hR : rm.frames + 1 ≤ R.frames ∧ 8 + (n' + 11) + rm.locals ≤ R.locals) (hz : rm.cells = 0 ∧ rm.slots = 0)
    (hdg : decode b pc = .ok (.invokevirtual idx, 3)) (hst : st = As.reverse ++ .ref (sK j) :: rest) (hcat : (rest.map fun v => v.category).sum ≤ 8)
    (kk : ∀ H1 locs1, va_P G vwCl (WW 78 sh ad M') H1 → va_S (AW 78 ad) s.heap H1 locs1 → narrow ty (.int v) = .int v → W p l e R s m args below meth c H1 locs1 0 0 Q (F0 m (pc + 3) ls (.int v :: rest))) :
    W p l e R s m args below meth c H locs 0 0 Q (F0 m pc ls st) := by
  subst hst
  refine va_calli (va_runV (As := As) (rest := rest) ⟨E.1, E.2.1, E.2.2.1, E.2.2.2.2.2.1, E.2.2.2.2.2.2.1⟩ (hC l) (cwV na E.2.2.2.2.2.2.1 hG rfl hz.1 hz.2 hd hR) ⟨PW.blind hEx, vk_recv E.2.2.2.2.2.2.2.2.1.2.2.1 hj hS, PW.at hEx E hP hS⟩ rfl hna hl rfl (lv_room hcat) hdg ⟨Nat.zero_le _, Nat.zero_le _⟩) hS (fun q _ h => h) (fun q h => h) (fun r u t H1 locs1 ht hvm hw hB hz1 hk1 hS1 => ?_)
  obtain ⟨rfl, hnr⟩ := hw
  rw [ht] at hB
  exact kk H1 locs1 hB hS1 hnr
end XT
section XS
variable {G : va_G} {ad sK sV : Nat → Nat} {cA cZ cC : ClassId}
theorem c_coder (hap : Apart 78 ad) (M : Mem) {j : Nat} (hj : j < 13) : XI G ad sK sV cA cZ cC yJ0_coder_7d493 cJ0_coder_7d493 1 .byte ({ frames := 0, cells := 0, slots := 0, locals := 0 } : Room) [.ref (sK j)] M 0 M := by
  refine CI.mk (own := RJ0) (ls0 := [(0, .ref (sK j))]) (by decide +kernel) rfl hap (Nat.le_of_ble_eq_true rfl) rfl ?_
  intro p l e s m args below meth c ls E hP hl
  have hx := E.1
  have hb := E.2.1
  have hown := E.2.2.2.2.2.1
  have hts := E.2.2.2.2.2.2.1
  have hS : va_S (AW 78 ad) s.heap s.heap [] := va_S.rf
  have hX := E.2.2.2.2.2.2.2.2.1
  refine va_gets (pc := 0) hx hb hX.2.2.2.1 hS hown (hts _ q636) (fun _ h => h) dJ0_coder_7d493_0 ?_
  refine lv_if_eq (pc := 3) (tgt := 13) hx hb dJ0_coder_7d493_3 (by decide) (fun c1 => absurd c1 (by decide)) (fun _ => ?_)
  refine lv_aload_n (pc := 6) hx hb dJ0_coder_7d493_6 rfl (lv_at hl 0 rfl) ?_
  refine vk_getf (pc := 7) hx hb (hX.2.2.1.1 j hj).2.1 hS hown (hts _ q956) (fun _ h => h) dJ0_coder_7d493_7 ?_
  refine lv_goto (pc := 10) (tgt := 14) hx hb dJ0_coder_7d493_10 (by decide) ?_
  exact x_iret E hP hS rfl dJ0_coder_7d493_14
theorem c_isLatin1 (hap : Apart 78 ad) (M : Mem) {j : Nat} (hj : j < 13) : XI G ad sK sV cA cZ cC yJ0_isLatin1_aae02 cJ0_isLatin1_aae02 1 .boolean ({ frames := 0, cells := 0, slots := 0, locals := 0 } : Room) [.ref (sK j)] M 1 M := by
  refine CI.mk (own := RJ0) (ls0 := [(0, .ref (sK j))]) (by decide +kernel) rfl hap (Nat.le_of_ble_eq_true rfl) rfl ?_
  intro p l e s m args below meth c ls E hP hl
  have hx := E.1
  have hb := E.2.1
  have hown := E.2.2.2.2.2.1
  have hts := E.2.2.2.2.2.2.1
  have hS : va_S (AW 78 ad) s.heap s.heap [] := va_S.rf
  have hX := E.2.2.2.2.2.2.2.2.1
  refine va_gets (pc := 0) hx hb hX.2.2.2.1 hS hown (hts _ q636) (fun _ h => h) dJ0_isLatin1_aae02_0 ?_
  refine lv_if_eq (pc := 3) (tgt := 17) hx hb dJ0_isLatin1_aae02_3 (by decide) (fun c1 => absurd c1 (by decide)) (fun _ => ?_)
  refine lv_aload_n (pc := 6) hx hb dJ0_isLatin1_aae02_6 rfl (lv_at hl 0 rfl) ?_
  refine vk_getf (pc := 7) hx hb (hX.2.2.1.1 j hj).2.1 hS hown (hts _ q956) (fun _ h => h) dJ0_isLatin1_aae02_7 ?_
  refine lv_if_ne (pc := 10) (tgt := 17) hx hb dJ0_isLatin1_aae02_10 (by decide) (fun c1 => absurd rfl c1) (fun _ => ?_)
  refine lv_iconst (pc := 13) (v := (1 : Int32)) hx hb dJ0_isLatin1_aae02_13 (by decide) ?_
  refine lv_goto (pc := 14) (tgt := 18) hx hb dJ0_isLatin1_aae02_14 (by decide) ?_
  exact x_iret E hP hS rfl dJ0_isLatin1_aae02_18
theorem c_strLen (hap : Apart 78 ad) (M : Mem) {j : Nat} (hj : j < 13) : XI G ad sK sV cA cZ cC yJ0_length_8abf5 cJ0_length_8abf5 1 .int ({ frames := 1, cells := 0, slots := 0, locals := 30 } : Room) [.ref (sK j)] M (strLen j) M := by
  refine CI.mk (own := RJ0) (ls0 := [(0, .ref (sK j))]) (by decide +kernel) rfl hap (Nat.le_of_ble_eq_true rfl) rfl ?_
  intro p l e s m args below meth c ls E hP hl
  have hx := E.1
  have hb := E.2.1
  have hown := E.2.2.2.2.2.1
  have hts := E.2.2.2.2.2.2.1
  have hEx := ExX.ok ad sK sV
  have hS : va_S (AW 78 ad) s.heap s.heap [] := va_S.rf
  have hX := E.2.2.2.2.2.2.2.2.1
  refine lv_aload_n (pc := 0) hx hb dJ0_length_8abf5_0 rfl (lv_at hl 0 rfl) ?_
  refine vk_getf (pc := 1) hx hb (hX.2.2.1.1 j hj).2.2.1 hS hown (hts _ q955) (fun _ h => h) dJ0_length_8abf5_1 ?_
  refine va_tlen (pc := 4) hx hb (hX.2.2.1.1 j hj).2.2.2 hS (v := strLen j) rfl dJ0_length_8abf5_4 ?_
  refine lv_aload_n (pc := 5) hx hb dJ0_length_8abf5_5 rfl (lv_at hl 0 rfl) ?_
  refine x_callTi (pc := 6) (st := .ref (sK j) :: .int (strLen j) :: []) (As := []) (j := j) E hEx hl.1 hP hS (c_coder hap M hj) (gV q632 q633 q634 q26 q635) (by decide +kernel) rfl hj ⟨Nat.le_of_ble_eq_true rfl, Nat.le_of_ble_eq_true rfl⟩ ⟨rfl, rfl⟩ dJ0_length_8abf5_6 rfl (Nat.le_of_ble_eq_true rfl) (fun H locs hP hS _ => ?_)
  refine lv_ishr (pc := 9) hx hb dJ0_length_8abf5_9 ?_
  rw [strLen_sh j hj]
  exact x_iret E hP hS rfl dJ0_length_8abf5_10
theorem c_pck (hap : Apart 78 ad) (M : Mem) (i n : Int32) (fv : Value) (hf : fv = .null ∨ ∃ t, fv = .ref t) (h1 : ¬ i < 0) (h2 : i < n) : XI G ad sK sV cA cZ cC yJ3_checkIndex_8e157 cJ3_checkIndex_8e157 3 .int ({ frames := 0, cells := 0, slots := 0, locals := 0 } : Room) [.int i, .int n, fv] M i M := by
  have hc : fv.category = 1 := by rcases hf with rfl | ⟨t, rfl⟩ <;> rfl
  refine CI.mk (own := RJ3) (ls0 := [(0, .int i), (1, .int n), (2, fv)]) (by decide +kernel) rfl hap (by rcases hf with rfl | ⟨t, rfl⟩ <;> exact Nat.le_of_ble_eq_true rfl) (by rcases hf with rfl | ⟨t, rfl⟩ <;> rfl) ?_
  intro p l e s m args below meth c ls E hP hl
  have hx := E.1
  have hb := E.2.1
  have hS : va_S (AW 78 ad) s.heap s.heap [] := va_S.rf
  refine lv_iload_n (pc := 0) hx hb dJ3_checkIndex_8e157_0 rfl (lv_at hl 0 rfl) ?_
  refine lv_if_lt (pc := 1) (tgt := 9) hx hb dJ3_checkIndex_8e157_1 (by decide) (fun c1 => absurd c1 h1) (fun _ => ?_)
  refine lv_iload_n (pc := 4) hx hb dJ3_checkIndex_8e157_4 rfl (lv_at hl 0 rfl) ?_
  refine lv_iload_n (pc := 5) hx hb dJ3_checkIndex_8e157_5 rfl (lv_at hl 1 rfl) ?_
  refine lv_icmp_lt (pc := 6) (tgt := 16) hx hb dJ3_checkIndex_8e157_6 (by decide) (fun _ => ?_) (fun c1 => absurd h2 c1)
  refine lv_iload_n (pc := 16) hx hb dJ3_checkIndex_8e157_16 rfl (lv_at hl 0 rfl) ?_
  exact x_iret E hP hS rfl dJ3_checkIndex_8e157_17
theorem c_ck (hap : Apart 78 ad) (M : Mem) (i n : Int32) (h1 : ¬ i < 0) (h2 : i < n) : XV G ad sK sV cA cZ cC yJ0_checkIndex_df160 cJ0_checkIndex_df160 2 ({ frames := 1, cells := 0, slots := 0, locals := 30 } : Room) [.int i, .int n] M M := by
  refine CV.mk (own := RJ0) (ls0 := [(0, .int i), (1, .int n)]) (by decide +kernel) rfl hap (Nat.le_of_ble_eq_true rfl) rfl ?_
  intro p l e s m args below meth c ls E hP hl
  have hx := E.1
  have hb := E.2.1
  have hown := E.2.2.2.2.2.1
  have hts := E.2.2.2.2.2.2.1
  have hEx := ExX.ok ad sK sV
  have hS : va_S (AW 78 ad) s.heap s.heap [] := va_S.rf
  obtain ⟨fv, hf, hZ⟩ := E.2.2.2.2.2.2.2.2.1.2.2.2.2
  have hc : fv.category = 1 := by rcases hf with rfl | ⟨t, rfl⟩ <;> rfl
  refine lv_iload_n (pc := 0) hx hb dJ0_checkIndex_df160_0 rfl (lv_at hl 0 rfl) ?_
  refine lv_iload_n (pc := 1) hx hb dJ0_checkIndex_df160_1 rfl (lv_at hl 1 rfl) ?_
  refine va_gets (pc := 2) hx hb hZ hS hown (hts _ q652) (fun _ h => h) dJ0_checkIndex_df160_2 ?_
  refine x_callSi (na := 3) (pc := 5) (st := fv :: .int n :: .int i :: []) (As := [.int i, .int n, fv]) E hEx hl.1 hP hS (c_pck hap M i n fv hf h1 h2) (gS q654 q655 q28 q656) (by decide +kernel) rfl ⟨Nat.le_of_ble_eq_true rfl, Nat.le_of_ble_eq_true rfl⟩ ⟨rfl, rfl⟩ dJ0_checkIndex_df160_5 rfl (Nat.le_of_ble_eq_true rfl) (fun H locs hP hS _ => ?_)
  refine lv_pop (pc := 8) hx hb dJ0_checkIndex_df160_8 rfl ?_
  exact x_vret E hP hS dJ0_checkIndex_df160_9
theorem c_l1At (hap : Apart 78 ad) (M : Mem) {j : Nat} (hj : j < 13) (i : Int32) (hi : inb i (lenS.getD j 0) = true) : XI G ad sK sV cA cZ cC yJ1_charAt_3b067 cJ1_charAt_3b067 2 .char ({ frames := 2, cells := 0, slots := 0, locals := 60 } : Room) [.ref (sV j), .int i] M ((bytS.getD j []).getD i.toNatClampNeg 0) M := by
  refine CI.mk (own := RJ1) (ls0 := [(0, .ref (sV j)), (1, .int i)]) (by decide +kernel) rfl hap (Nat.le_of_ble_eq_true rfl) rfl ?_
  intro p l e s m args below meth c ls E hP hl
  have hx := E.1
  have hb := E.2.1
  have hown := E.2.2.2.2.2.1
  have hts := E.2.2.2.2.2.2.1
  have hEx := ExX.ok ad sK sV
  have hS : va_S (AW 78 ad) s.heap s.heap [] := va_S.rf
  have hX := E.2.2.2.2.2.2.2.2.1
  have hi' := hi
  simp only [inb, Bool.and_eq_true, Bool.not_eq_true', decide_eq_false_iff_not, decide_eq_true_eq] at hi'
  obtain ⟨h1, h3⟩ := hi'
  obtain ⟨k, hk, rfl⟩ := nI_of h1
  have hkc : (nI k).toNatClampNeg = k := nI_clamp hk
  rw [hkc] at h3
  have h2 : nI k < Int32.ofNat (lenS.getD j 0) := nI_lt h3 (strLen_sz j hj)
  refine lv_iload_n (pc := 0) hx hb dJ1_charAt_3b067_0 rfl (lv_at hl 1 rfl) ?_
  refine lv_aload_n (pc := 1) hx hb dJ1_charAt_3b067_1 rfl (lv_at hl 0 rfl) ?_
  refine va_tlen (pc := 2) hx hb (hX.2.2.1.1 j hj).2.2.2 hS (v := strLen j) rfl dJ1_charAt_3b067_2 ?_
  refine x_callSv (na := 2) (pc := 3) (st := .int (strLen j) :: .int (nI k) :: []) (As := [.int (nI k), .int (strLen j)]) E hEx hl.1 hP hS (c_ck hap M _ _ h1 h2) (gS q649 q650 q26 q651) (by decide +kernel) rfl ⟨Nat.le_of_ble_eq_true rfl, Nat.le_of_ble_eq_true rfl⟩ ⟨rfl, rfl⟩ dJ1_charAt_3b067_3 rfl (Nat.le_of_ble_eq_true rfl) (fun H locs hP hS => ?_)
  refine lv_aload_n (pc := 6) hx hb dJ1_charAt_3b067_6 rfl (lv_at hl 0 rfl) ?_
  refine lv_iload_n (pc := 7) hx hb dJ1_charAt_3b067_7 rfl (lv_at hl 1 rfl) ?_
  refine va_tb (pc := 8) hx hb (hX.2.2.1.1 j hj).2.2.2 hS (inb_in hi) rfl dJ1_charAt_3b067_8 ?_
  refine lv_sipush (pc := 9) (v := (255 : Int32)) hx hb dJ1_charAt_3b067_9 (by decide) ?_
  refine lv_iand (pc := 12) hx hb dJ1_charAt_3b067_12 ?_
  have hB := strBytes j hj k h3
  refine lv_i2c (pc := 13) (v := (bytS.getD j []).getD k 0) hx hb dJ1_charAt_3b067_13 (by rw [hkc]; exact hB.1) ?_
  rw [hkc]
  exact x_iret E hP hS hB.2 dJ1_charAt_3b067_14
theorem c_strAt (hap : Apart 78 ad) (M : Mem) {j : Nat} (hj : j < 13) (i v : Int32) (h : strAt j i = some v) : XI G ad sK sV cA cZ cC yJ0_charAt_5068e cJ0_charAt_5068e 2 .char ({ frames := 4, cells := 0, slots := 0, locals := 140 } : Room) [.ref (sK j), .int i] M v M := by
  obtain ⟨hi, h⟩ := ite_some h
  obtain rfl := Option.some.inj h
  refine CI.mk (own := RJ0) (ls0 := [(0, .ref (sK j)), (1, .int i)]) (by decide +kernel) rfl hap (Nat.le_of_ble_eq_true rfl) rfl ?_
  intro p l e s m args below meth c ls E hP hl
  have hx := E.1
  have hb := E.2.1
  have hown := E.2.2.2.2.2.1
  have hts := E.2.2.2.2.2.2.1
  have hEx := ExX.ok ad sK sV
  have hS : va_S (AW 78 ad) s.heap s.heap [] := va_S.rf
  have hX := E.2.2.2.2.2.2.2.2.1
  refine lv_aload_n (pc := 0) hx hb dJ0_charAt_5068e_0 rfl (lv_at hl 0 rfl) ?_
  refine x_callTi (pc := 1) (st := .ref (sK j) :: []) (As := []) (j := j) E hEx hl.1 hP hS (c_isLatin1 hap M hj) (gV q642 q643 q644 q26 q645) (by decide +kernel) rfl hj ⟨Nat.le_of_ble_eq_true rfl, Nat.le_of_ble_eq_true rfl⟩ ⟨rfl, rfl⟩ dJ0_charAt_5068e_1 rfl (Nat.le_of_ble_eq_true rfl) (fun H locs hP hS _ => ?_)
  refine lv_if_eq (pc := 4) (tgt := 16) hx hb dJ0_charAt_5068e_4 (by decide) (fun c1 => absurd c1 (by decide)) (fun _ => ?_)
  refine lv_aload_n (pc := 7) hx hb dJ0_charAt_5068e_7 rfl (lv_at hl 0 rfl) ?_
  refine vk_getf (pc := 8) hx hb (hX.2.2.1.1 j hj).2.2.1 hS hown (hts _ q955) (fun _ h => h) dJ0_charAt_5068e_8 ?_
  refine lv_iload_n (pc := 11) hx hb dJ0_charAt_5068e_11 rfl (lv_at hl 1 rfl) ?_
  refine x_callSi (na := 2) (pc := 12) (st := .int i :: .ref (sV j) :: []) (As := [.ref (sV j), .int i]) E hEx hl.1 hP hS (c_l1At hap M hj i hi) (gS q646 q647 q27 q648) (by decide +kernel) rfl ⟨Nat.le_of_ble_eq_true rfl, Nat.le_of_ble_eq_true rfl⟩ ⟨rfl, rfl⟩ dJ0_charAt_5068e_12 rfl (Nat.le_of_ble_eq_true rfl) (fun H locs hP hS hn => ?_)
  exact x_iret E hP hS hn dJ0_charAt_5068e_15
end XS
