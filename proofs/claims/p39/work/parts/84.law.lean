/-! the law's own walk: the class's world and the script beside it -/
/-- the script, as cell(s, k) reads it -/
def cellV (xs : Nat → Int32) (L k : Nat) : Int32 := if k < L then xs k else 10390003 * nI k + 10007
def ExC (b L : Nat) (xs : Nat → Int32) (U : State) : Prop := va_X b L xs U U.heap ∧ b < U.heap.size
theorem va_X.lt {b L : Nat} {xs : Nat → Int32} {U : State} {H : Heap} (h : va_X b L xs U H) : b < H.size := by
  obtain ⟨scr, h1, h2⟩ := h
  exact (Array.getElem?_eq_some_iff.mp h1).1
theorem ExC.ok (b L : Nat) (xs : Nat → Int32) (ad : Nat → Nat) : ExOK (ExC b L xs) 0 ad := by
  refine ⟨fun U g mk a h => ⟨va_X.moved (u := U) (U := U.calling g mk a) (Vm.Alike.refl U.vm) h.1, h.2⟩, fun s U H locs h hS hU hW => ?_⟩
  subst hU
  have h1 : va_X b L xs s U.heap := h.1.kept (hS.2.1 b h.2 (fun q => by obtain ⟨i, hi, _⟩ := q; exact absurd hi (Nat.not_lt_zero _)))
  exact ⟨va_X.moved hW.alike h1, h1.lt⟩
def LW (G : va_G) (cA cZ cC : ClassId) (ax : Nat → Nat) (X : Mem) (s : State) (H : Heap) (locs : List Loc) : Prop :=
  va_P G vwCl (WW 78 (shX cA ax) ax X) H ∧ va_S (fun q => s.heap.size ≤ q) s.heap H locs
def LE (G : va_G) (sK sV : Nat → Nat) (cA cZ cC : ClassId) (ax : Nat → Nat) (p : Program) (s : State) (m : MethodId) (args : Array Value) (meth : Method) (c : Code) (b L : Nat) (xs : Nat → Int32) : Prop :=
  EN G (TY cA cZ cC) p s m args meth c RL code 6 ret ∧ ExX ax sK sV s ∧ Apart 78 ax ∧ (∀ i, i < 78 → s.heap.size ≤ ax i) ∧ va_X b L xs s s.heap ∧ b < s.heap.size
theorem k34 {k : Nat} (hk : k < 34) : ¬ (34 : Int32) ≤ nI k := by
  rw [show (34 : Int32) = nI 34 from rfl, Int32.le_iff_toInt_le, nI_toInt (by omega), nI_toInt (by omega)]
  omega
theorem lt7 {k : Nat} (hk : k < 34) : (7 : Int32) ≤ nI k ↔ ¬ k < 7 := by
  rw [show (7 : Int32) = nI 7 from rfl, Int32.le_iff_toInt_le, nI_toInt (by omega), nI_toInt (by omega)]
  omega
section LAW
variable {G : va_G} {sK sV : Nat → Nat} {cA cZ cC : ClassId} {ax : Nat → Nat} {X : Mem} {L b : Nat} {xs : Nat → Int32}
variable {p : Program} {l : Launch} {e : Env} {Ro : Room} {s : State} {m : MethodId} {args : Array Value} {below : List Frame} {meth : Method} {c : Code} {H : Heap} {locs : List Loc} {Q : State → Prop} {cells slots : Nat}
variable {pc : Nat} {ls : Array Slot} {rest st : List Value}
theorem lx_call {y : MethodName} {b' : ByteArray} {n' : Nat} {rm : Room} {As : List Value} {v : Int32} {X' : Mem} {idx na : Nat} (E : LE G sK sV cA cZ cC ax p s m args meth c b L xs) (hl : ls.size = 6) (h : LW G cA cZ cC ax X s H locs) (hroom : cells ≤ Ro.cells ∧ slots ≤ Ro.slots)
    (hC : XI G ax sK sV cA cZ cC y b' n' .int rm (.ref (ax 0) :: As) X v X') (hG : GoodIn TB (wsV RL idx RX7 y (.code y b' n' (some .int) :: TB)))
    (hd : y.cls = RX7 ∧ y.cls ≠ "java/lang/invoke/MethodHandle" ∧ y.cls ≠ "java/lang/invoke/VarHandle" ∧ (parseMethodDescriptor y.desc).map (fun d => d.parameters.length) = some na) (hna : As.length = na)
    (hR : rm.frames + 1 ≤ Ro.frames ∧ 8 + (n' + 11) + rm.locals ≤ Ro.locals) (hz : rm.cells = 0 ∧ rm.slots = 0)
    (hdg : decode code pc = .ok (.invokevirtual idx, 3)) (hst : st = As.reverse ++ .ref (ax 0) :: rest) (hcat : (rest.map fun v => v.category).sum ≤ 8)
    (kk : ∀ H1 locs1, LW G cA cZ cC ax X' s H1 locs1 → W p l e Ro s m args below meth c H1 locs1 cells slots Q (F0 m (pc + 3) ls (.int v :: rest))) :
    W p l e Ro s m args below meth c H locs cells slots Q (F0 m pc ls st) := by
  subst hst
  obtain ⟨E, hEx, hax, hlx, -, -⟩ := E
  have hts := E.2.2.2.2.2.2.1
  have hK := E.2.2.2.2.2.2.2.1
  have hpre : ∀ U : State, U.heap = H → s.WarmedH U.vm → va_Pc (.ref (ax 0) :: As) (PW G (TY cA cZ cC) (ExX ax sK sV) 78 (shX cA ax) ax X) (Value.ref (ax 0) :: As).toArray U := fun U hU hW =>
    ⟨rfl, by rw [hU]; exact h.1, va_K.moved hW.alike hK, (ExX.ok ax sK sV).2 s U H [] hEx ⟨h.2.1, fun q h1 _ => h.2.2.1 q h1 (Nat.not_le.mpr h1), fun _ hq => absurd hq List.not_mem_nil⟩ hU hW⟩
  have hin : ∀ q, AW 78 ax q → s.heap.size ≤ q := fun q hq => by
    obtain ⟨i, hi, rfl⟩ := hq
    exact hlx i hi
  refine va_calli (va_runV (As := As) (rest := rest) ⟨E.1, E.2.1, E.2.2.1, E.2.2.2.2.2.1, hts⟩ (hC l) (cwV na hts hG rfl hz.1 hz.2 hd hR) ⟨PW.blind (ExX.ok ax sK sV), va_recv hK h.1 (ci := 7) (q0 := 0) rfl (WW_get (by decide)), hpre⟩ rfl hna hl rfl (lv_room hcat) hdg ⟨hroom.1, hroom.2⟩) h.2 (fun q _ hq => hin q hq) hin (fun r u t H1 locs1 ht hvm hw hB hz1 hk1 hS1 => ?_)
  obtain ⟨rfl, hnr⟩ := hw
  rw [ht] at hB
  exact kk H1 locs1 ⟨hB, hS1⟩
theorem ls_call {y : MethodName} {b' : ByteArray} {n' : Nat} {rm : Room} {As : List Value} {v : Int32} {X' : Mem} {idx na : Nat} (E : LE G sK sV cA cZ cC ax p s m args meth c b L xs) (hl : ls.size = 6) (h : LW G cA cZ cC ax X s H locs) (hroom : cells ≤ Ro.cells ∧ slots ≤ Ro.slots)
    (hC : XI G ax sK sV cA cZ cC y b' n' .boolean rm As X v X') (hG : GoodIn TB (va_wsS RL idx y (.code y b' n' (some .boolean) :: TB)))
    (hd : y.cls ≠ "java/lang/invoke/MethodHandle" ∧ y.cls ≠ "java/lang/invoke/VarHandle" ∧ (parseMethodDescriptor y.desc).map (fun d => d.parameters.length) = some na) (hna : As.length = na)
    (hR : rm.frames + 1 ≤ Ro.frames ∧ 8 + (n' + 11) + rm.locals ≤ Ro.locals) (hz : rm.cells = 0 ∧ rm.slots = 0)
    (hdg : decode code pc = .ok (.invokestatic idx, 3)) (hst : st = As.reverse ++ rest) (hcat : (rest.map fun v => v.category).sum ≤ 8)
    (kk : ∀ H1 locs1, LW G cA cZ cC ax X' s H1 locs1 → W p l e Ro s m args below meth c H1 locs1 cells slots Q (F0 m (pc + 3) ls (.int v :: rest))) :
    W p l e Ro s m args below meth c H locs cells slots Q (F0 m pc ls st) := by
  subst hst
  obtain ⟨E, hEx, hax, hlx, -, -⟩ := E
  have hts := E.2.2.2.2.2.2.1
  have hK := E.2.2.2.2.2.2.2.1
  have hpre : ∀ U : State, U.heap = H → s.WarmedH U.vm → va_Pc As (PW G (TY cA cZ cC) (ExX ax sK sV) 78 (shX cA ax) ax X) As.toArray U := fun U hU hW =>
    ⟨rfl, by rw [hU]; exact h.1, va_K.moved hW.alike hK, (ExX.ok ax sK sV).2 s U H [] hEx ⟨h.2.1, fun q h1 _ => h.2.2.1 q h1 (Nat.not_le.mpr h1), fun _ hq => absurd hq List.not_mem_nil⟩ hU hW⟩
  have hin : ∀ q, AW 78 ax q → s.heap.size ≤ q := fun q hq => by
    obtain ⟨i, hi, rfl⟩ := hq
    exact hlx i hi
  refine va_calli (va_runS (As := As) (rest := rest) ⟨E.1, E.2.1, E.2.2.1, E.2.2.2.2.2.1, hts⟩ (hC l) (va_cwS na hts hG rfl hz.1 hz.2 hd hR) ⟨PW.blind (ExX.ok ax sK sV), hpre⟩ rfl hna hl rfl (lv_room hcat) hdg ⟨hroom.1, hroom.2⟩) h.2 (fun q _ hq => hin q hq) hin (fun r u t H1 locs1 ht hvm hw hB hz1 hk1 hS1 => ?_)
  obtain ⟨rfl, hnr⟩ := hw
  rw [ht] at hB
  exact kk H1 locs1 ⟨hB, hS1⟩
/-- cell(s, k) -/
theorem kL_cell {ad : Nat → Nat} (M : Mem) {k : Nat} (hL : L ≤ 260) (hk : k < 100) : CI G (TY cA cZ cC) (ExC b L xs) 0 (shX cA ad) ad yL_cell cL_cell 2 .int ({ frames := 0, cells := 0, slots := 0, locals := 0 } : Room) [.ref b, .int (nI k)] M (cellV xs L k) M := by
  refine CI.mk (own := RL) (ls0 := [(0, .ref b), (1, .int (nI k))]) (by decide +kernel) rfl (fun i j hi => absurd hi (Nat.not_lt_zero _)) (Nat.le_of_ble_eq_true rfl) rfl ?_
  intro p l e s m args below meth c ls E hP hl
  have hx := E.1
  have hb := E.2.1
  have hown := E.2.2.2.2.2.1
  have hts := E.2.2.2.2.2.2.1
  have hX := E.2.2.2.2.2.2.2.2.1.1
  have hbl := E.2.2.2.2.2.2.2.2.1.2
  have hS : va_S (AW 0 ad) s.heap s.heap [] := va_S.rf
  have hbA : ¬ AW 0 ad b := fun q => by obtain ⟨i, hi, _⟩ := q; exact absurd hi (Nat.not_lt_zero _)
  have hle : (Int32.ofNat L ≤ nI k) = ¬ k < L := by
    rw [show Int32.ofNat L = nI L from rfl, Int32.le_iff_toInt_le, nI_toInt (by omega), nI_toInt (by omega)]
    apply propext
    omega
  unfold cellV
  refine lv_iload_n (pc := 0) hx hb dL_cell_0 rfl (lv_at hl 1 rfl) ?_
  refine lv_aload_n (pc := 1) hx hb dL_cell_1 rfl (lv_at hl 0 rfl) ?_
  refine va_slen (pc := 2) hx hb hX hbl hbA hS dL_cell_2 ?_
  refine lv_icmp_ge (pc := 3) (tgt := 12) hx hb dL_cell_3 (by decide) (fun z => ?_) (fun z => ?_)
  · rw [hle] at z
    rw [if_neg z]
    refine lv_ldc (pc := 12) (v := (10390003 : Int32)) hx hb hown (hts _ q443) dL_cell_12 ?_
    refine lv_iload_n (pc := 14) hx hb dL_cell_14 rfl (lv_at hl 1 rfl) ?_
    refine lv_imul (pc := 15) hx hb dL_cell_15 ?_
    refine lv_sipush (pc := 16) (v := (10007 : Int32)) hx hb dL_cell_16 (by decide) ?_
    refine lv_iadd (pc := 19) hx hb dL_cell_19 ?_
    exact x_iret E hP hS rfl dL_cell_20
  · rw [hle] at z
    have z : k < L := by omega
    rw [if_pos z]
    refine lv_aload_n (pc := 6) hx hb dL_cell_6 rfl (lv_at hl 0 rfl) ?_
    refine lv_iload_n (pc := 7) hx hb dL_cell_7 rfl (lv_at hl 1 rfl) ?_
    refine va_sld (pc := 8) hx hb hX hbl hbA hS (nI_in z (by omega)) dL_cell_8 ?_
    rw [nI_clamp (show k < 2 ^ 31 by omega)]
    refine lv_goto (pc := 9) (tgt := 20) hx hb dL_cell_9 (by decide) ?_
    exact x_iret E hP hS rfl dL_cell_20
theorem lc_call {k : Nat} (E : LE G sK sV cA cZ cC ax p s m args meth c b L xs) (hl : ls.size = 6) (h : LW G cA cZ cC ax X s H locs) (hroom : cells ≤ room_1.cells ∧ slots ≤ room_1.slots) (hL : L ≤ 260) (hk : k < 100)
    (hdg : decode code pc = .ok (.invokestatic 148, 3)) (hcat : (rest.map fun v => v.category).sum ≤ 8)
    (kk : ∀ H1 locs1, LW G cA cZ cC ax X s H1 locs1 → W p l e room_1 s m args below meth c H1 locs1 cells slots Q (F0 m (pc + 3) ls (.int (cellV xs L k) :: rest))) :
    W p l e room_1 s m args below meth c H locs cells slots Q (F0 m pc ls (.int (nI k) :: .ref b :: rest)) := by
  obtain ⟨E, hEx, hax, hlx, hX, hbl⟩ := E
  have hts := E.2.2.2.2.2.2.1
  have hK := E.2.2.2.2.2.2.2.1
  have hpre : ∀ U : State, U.heap = H → s.WarmedH U.vm → va_Pc [.ref b, .int (nI k)] (PW G (TY cA cZ cC) (ExC b L xs) 0 (shX cA ax) ax X) ([.ref b, .int (nI k)] : List Value).toArray U := fun U hU hW => by
    have h1 : va_X b L xs s U.heap := hX.kept (by rw [hU]; exact h.2.2.1 b hbl (Nat.not_le.mpr hbl))
    exact ⟨rfl, fun i q hq => absurd (WW_in hq).1 (Nat.not_lt_zero _), va_K.moved hW.alike hK, va_X.moved hW.alike h1, h1.lt⟩
  have hin : ∀ q, AW 0 ax q → s.heap.size ≤ q := fun q hq => by
    obtain ⟨i, hi, _⟩ := hq
    exact absurd hi (Nat.not_lt_zero _)
  refine va_calli (va_runS (As := [.ref b, .int (nI k)]) (rest := rest) ⟨E.1, E.2.1, E.2.2.1, E.2.2.2.2.2.1, hts⟩ (kL_cell (G := G) (cA := cA) (cZ := cZ) (cC := cC) (b := b) (L := L) (xs := xs) (ad := ax) X hL hk l) (va_cwS 2 hts (gS q440 q441 q16 q442) rfl rfl rfl (by decide +kernel) ⟨Nat.le_of_ble_eq_true rfl, Nat.le_of_ble_eq_true rfl⟩) ⟨PW.blind (ExC.ok b L xs ax), hpre⟩ rfl rfl hl rfl (lv_room hcat) hdg ⟨hroom.1, hroom.2⟩) h.2 (fun q _ hq => hin q hq) hin (fun r u t H1 locs1 ht hvm hw hB hz1 hk1 hS1 => ?_)
  obtain ⟨rfl, hnr⟩ := hw
  exact kk H1 locs1 ⟨h.1.kept fun j q hq => hk1 q.1 (h.1 j q hq).lt fun hz => by obtain ⟨i, hi, _⟩ := hz; exact absurd hi (Nat.not_lt_zero _), hS1⟩
end LAW
