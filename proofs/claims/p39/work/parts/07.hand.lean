theorem som1 {α : Type} {a b : α} (h : some a = some b) : a = b := Option.some.inj h
theorem som2 {α β : Type} {a b : α} {c d : β} (h : some (a, c) = some (b, d)) : a = b ∧ c = d := by cases h; exact ⟨rfl, rfl⟩
theorem ne_lit {x z : Int32} {k : Int} (hz : z.toInt = k) (h : ¬ x = z) : x.toInt ≠ k := fun q => h (Int32.toInt_inj.mp (q.trans hz.symm))
theorem vp_inl {i : Int32} {n : Nat} (h : inb i n = true) : vp_in i n := inb_in h
theorem bz0 : bz 0 = 0 := by decide
theorem bz1 : bz 1 = 1 := by decide
theorem bz_or (x : Int32) : bz x = 0 ∨ bz x = 1 := by
  have h : (bz x).toBitVec.toNat = x.toBitVec.toNat % 2 := by
    show (x &&& 1).toBitVec.toNat = _
    rw [Int32.toBitVec_and, BitVec.toNat_and]
    exact Nat.and_one_is_mod _
  rcases Nat.mod_two_eq_zero_or_one x.toBitVec.toNat with q | q
  · left
    apply Int32.toBitVec_inj.mp
    apply BitVec.eq_of_toNat_eq
    rw [h, q]; rfl
  · right
    apply Int32.toBitVec_inj.mp
    apply BitVec.eq_of_toNat_eq
    rw [h, q]; rfl
theorem bz_fit (x : Int32) : fits .boolean (.int (bz x)) = true := by
  rcases bz_or x with h | h <;> rw [h] <;> rfl
def mxi (x y : Int32) : Int32 := if x < y then y else x
def irm (x y : Int32) : Int32 := x - x / y * y
def x_c (x : Int32) : Int32 := (x.toUInt32 % 65536).toInt32
def atX (M : Mem) (k n : Nat) (i : Int32) : Int32 := if inb i n = true then M k i.toNatClampNeg else 0
def putX (M : Mem) (k n : Nat) (i v : Int32) : Mem := if inb i n = true then wr M k i.toNatClampNeg v else M
def copyX (M : Mem) (k k' n : Nat) : Mem := setR M k' (fun j => if j < n then M k j else M k' j)
def slotK (x : Int32) : Nat := if x = 0 then 24 else 45
theorem slotK_ok (x : Int32) : StA (slotK x) := by
  unfold slotK
  split
  · exact StA_24
  · exact StA_45
theorem setR_setR (M : Mem) (k : Nat) (f g : Nat → Int32) : setR (setR M k f) k g = setR M k g := by
  funext j
  by_cases h : j = k <;> simp [setR, h]
theorem setR_self (M : Mem) (k : Nat) : setR M k (M k) = M := by
  funext j
  by_cases h : j = k
  · subst h; simp [setR]
  · simp [setR, h]
theorem inb_of {i : Int32} {n : Nat} (hn : n < 2 ^ 31) (h1 : ¬ i < 0) (h2 : ¬ Int32.ofNat n ≤ i) : inb i n = true := by
  obtain ⟨j, hj, rfl⟩ := nI_of h1
  have h3 : j < n := by
    apply Nat.lt_of_not_le
    intro q
    exact h2 (nI_le q hj)
  have h4 : ((nI j).toNatClampNeg) = j := nI_clamp hj
  simp only [inb, Bool.and_eq_true, Bool.not_eq_true', decide_eq_false_iff_not, decide_eq_true_eq]
  exact ⟨h1, by rw [h4]; exact h3⟩
theorem inb_neg {i : Int32} {n : Nat} (h : i < 0) : inb i n = false := by simp [inb, h]
theorem inb_big {i : Int32} {n : Nat} (hn : n < 2 ^ 31) (h1 : ¬ i < 0) (h2 : Int32.ofNat n ≤ i) : inb i n = false := by
  obtain ⟨j, hj, rfl⟩ := nI_of h1
  have h3 : n ≤ j := by
    apply Nat.le_of_not_lt
    intro q
    exact nI_ge q hn h2
  have h4 : ((nI j).toNatClampNeg) = j := nI_clamp hj
  simp only [inb, h4, Bool.and_eq_false_iff, Bool.not_eq_false', decide_eq_true_eq, decide_eq_false_iff_not]
  exact Or.inr (by omega)
section XH
variable {G : va_G} {tys : List (ClassId × FieldType)} {Ex : State → Prop} {N : Nat} {sh : Nat → (Nat → Int32) → va_E} {ad : Nat → Nat} {M : Mem}
variable {p : Program} {l : Launch} {e : Env} {R : Room} {s : State} {m : MethodId} {args : Array Value} {below : List Frame} {meth : Method} {c : Code} {H : Heap} {locs : List Loc} {Q : State → Prop}
variable {own : String} {b : ByteArray} {n : Nat} {ret : Option FieldType} {pc : Nat} {ls : Array Slot} {rest : List Value}
theorem x_irem (hexec : p.tables.exec = Jvm.exec) (hb : c.code = b) {x y : Int32} (hdg : decode b pc = .ok (.irem, 1)) (hne : ¬ y = 0)
    (k : W p l e R s m args below meth c H locs 0 0 Q (F0 m (pc + 1) ls (.int (irm x y) :: rest))) : W p l e R s m args below meth c H locs 0 0 Q (F0 m pc ls (.int y :: .int x :: rest)) := lv_irem hexec hb hdg hne k
theorem x_mmax {index : Nat} (hexec : p.tables.exec = Jvm.exec) (hb : c.code = b) (hml : c.maxLocals = ls.size) (hown : s.vm.findClass own = some m.cls) (hlink : (Cond.methodLink own index yJ9_max_7cf53).before args s = true) (hts : ∀ w ∈ TB, w.before args s = true)
    (hframes : 1 ≤ R.frames) (hlocals : (rest.map fun v => v.category).sum + 13 ≤ R.locals) {x y : Int32} (hdg : decode b pc = .ok (.invokestatic index, 3))
    (kk : W p l e R s m args below meth c H locs 0 0 Q (F0 m (pc + 3) ls (.int (mxi x y) :: rest))) : W p l e R s m args below meth c H locs 0 0 Q (F0 m pc ls (.int y :: .int x :: rest)) :=
  va_mmax hexec hb hml hown hlink (hts _ q404) (hts _ (TBm 25 (by decide +kernel) rfl)) (hts _ (TBm 405 (by decide +kernel) rfl)) hframes hlocals (Nat.zero_le _) (Nat.zero_le _) hdg kk
theorem x_cast {k len : Nat} {cC : ClassId} (E : EV G tys Ex N ad p s m args meth c own b n ret) (hP : va_P G vwCl (WW N sh ad M) H) (hS : va_S (AW N ad) s.heap H locs) (hk : k < N) (hs : ∀ row, sh k row = .inl (cC, len, .inl row)) (t0 : Nat) (ht : tys[t0]? = some (cC, .char)) {i x : Int32} {j : Nat} (hin : vp_in i len) (hj : i.toNatClampNeg = j) (hdg : decode b pc = .ok (.castore, 1))
    (kk : ∀ H1 locs1, va_P G vwCl (WW N sh ad (wr M k j (vp_nar .char x))) H1 → va_S (AW N ad) s.heap H1 locs1 → W p l e R s m args below meth c H1 locs1 0 0 Q (F0 m (pc + 1) ls rest)) : W p l e R s m args below meth c H locs 0 0 Q (F0 m pc ls (.int x :: .int i :: .ref (ad k) :: rest)) := by
  subst hj
  refine va_cast (D := G) (cl := vwCl) E.1 E.2.1 E.2.2.2.2.2.2.2.1 hP (WW_D E.2.2.2.2.2.2.2.2.2) hS k t0 (f := M k) (n := len) (by rw [WW_get hk, hs]) ht hin hdg (fun H1 locs1 hP1 _ hS1 => kk H1 locs1 ?_ hS1)
  rw [← hs, WW_set] at hP1
  exact hP1
theorem x_zast {k len : Nat} {cC : ClassId} (E : EV G tys Ex N ad p s m args meth c own b n ret) (hP : va_P G vwCl (WW N sh ad M) H) (hS : va_S (AW N ad) s.heap H locs) (hk : k < N) (hs : ∀ row, sh k row = .inl (cC, len, .inl row)) (t0 : Nat) (ht : tys[t0]? = some (cC, .boolean)) {i x : Int32} {j : Nat} (hin : vp_in i len) (hj : i.toNatClampNeg = j) (hdg : decode b pc = .ok (.bastore, 1))
    (kk : ∀ H1 locs1, va_P G vwCl (WW N sh ad (wr M k j (vp_nar .boolean x))) H1 → va_S (AW N ad) s.heap H1 locs1 → W p l e R s m args below meth c H1 locs1 0 0 Q (F0 m (pc + 1) ls rest)) : W p l e R s m args below meth c H locs 0 0 Q (F0 m pc ls (.int x :: .int i :: .ref (ad k) :: rest)) := by
  subst hj
  refine va_zast (D := G) (cl := vwCl) E.1 E.2.1 E.2.2.2.2.2.2.2.1 hP (WW_D E.2.2.2.2.2.2.2.2.2) hS k t0 (f := M k) (n := len) (by rw [WW_get hk, hs]) ht hin hdg (fun H1 locs1 hP1 _ hS1 => kk H1 locs1 ?_ hS1)
  rw [← hs, WW_set] at hP1
  exact hP1
end XH
/-- a reference into the world comes back -/
def CR (G : va_G) (tys : List (ClassId × FieldType)) (Ex : State → Prop) (N : Nat) (sh : Nat → (Nat → Int32) → va_E) (ad : Nat → Nat) (y : MethodName) (b : ByteArray) (n : Nat) (ty : FieldType) (rm : Room) (av : List Value) (M : Mem) (k : Nat) : Prop :=
  ∀ l : Launch, Met l y (.code y b n (some ty) :: TB) rm (va_Pc av (PW G tys Ex N sh ad M)) (va_Qr (fun (_ : Unit) => True) (fun _ a t => a = ad k ∧ va_P G vwCl (WW N sh ad M) t.heap) (AW N ad)) 0 0 (AW N ad)
section XG
variable {G : va_G} {ad sK sV : Nat → Nat} {cA cZ cC : ClassId}
set_option maxHeartbeats 4000000 in
theorem c_at (hap : Apart 78 ad) (M : Mem) {k n : Nat} (hk : k < 78) (hs : ∀ row, shX cA ad k row = .inl (cA, n, .inl row)) (hn : n < 2 ^ 31) (i v : Int32) (h : atX M k n i = v) : XI G ad sK sV cA cZ cC yX7_at cX7_at 2 .int ({ frames := 0, cells := 0, slots := 0, locals := 0 } : Room) [.ref (ad k), .int i] M v M := by
  refine CI.mk (own := RX7) (ls0 := [(0, .ref (ad k)), (1, .int i)]) (by decide +kernel) rfl hap (Nat.le_of_ble_eq_true rfl) rfl ?_
  intro p l e s m args below meth c ls E hP hl
  have hx := E.1
  have hb := E.2.1
  have hS : va_S (AW 78 ad) s.heap s.heap [] := va_S.rf
  have h0 : inb i n = false → v = 0 := fun q => by rw [← h]; simp [atX, q]
  have hz : v = 0 → W p l e ({ frames := 0, cells := 0, slots := 0, locals := 0 } : Room) s m args below meth c s.heap [] 0 0 (QI below G 78 (shX cA ad) ad .int args s v M) (F0 m 20 ls []) := by
    intro q
    refine lv_iconst (pc := 20) (v := (0 : Int32)) hx hb dX7_at_20 (by decide) ?_
    rw [q]
    exact x_iret E hP hS rfl dX7_at_21
  refine lv_aload_n (pc := 0) hx hb dX7_at_0 rfl (lv_at hl 0 rfl) ?_
  refine lv_ifnull (pc := 1) hx hb dX7_at_1 ?_
  refine lv_iload_n (pc := 4) hx hb dX7_at_4 rfl (lv_at hl 1 rfl) ?_
  refine lv_if_lt (pc := 5) (tgt := 20) hx hb dX7_at_5 (by decide) (fun c1 => hz (h0 (inb_neg c1))) (fun c1 => ?_)
  refine lv_iload_n (pc := 8) hx hb dX7_at_8 rfl (lv_at hl 1 rfl) ?_
  refine lv_aload_n (pc := 9) hx hb dX7_at_9 rfl (lv_at hl 0 rfl) ?_
  refine x_alen (pc := 10) E hP hk hs 0 rfl rfl dX7_at_10 ?_
  refine lv_icmp_ge (pc := 11) (tgt := 20) hx hb dX7_at_11 (by decide) (fun c2 => hz (h0 (inb_big hn c1 c2))) (fun c2 => ?_)
  have hi := inb_of hn c1 c2
  refine lv_aload_n (pc := 14) hx hb dX7_at_14 rfl (lv_at hl 0 rfl) ?_
  refine lv_iload_n (pc := 15) hx hb dX7_at_15 rfl (lv_at hl 1 rfl) ?_
  refine x_iald (pc := 16) (j := i.toNatClampNeg) E hP hk hs 0 rfl (inb_in hi) rfl dX7_at_16 ?_
  refine lv_goto (pc := 17) (tgt := 21) hx hb dX7_at_17 (by decide) ?_
  rw [show M k i.toNatClampNeg = v by rw [← h]; simp [atX, hi]]
  exact x_iret E hP hS rfl dX7_at_21
set_option maxHeartbeats 4000000 in
theorem c_put (hap : Apart 78 ad) (M : Mem) {k n : Nat} (hk : k < 78) (hs : ∀ row, shX cA ad k row = .inl (cA, n, .inl row)) (hn : n < 2 ^ 31) (i v : Int32) (M' : Mem) (h : putX M k n i v = M') : XV G ad sK sV cA cZ cC yX7_put cX7_put 3 ({ frames := 0, cells := 0, slots := 0, locals := 0 } : Room) [.ref (ad k), .int i, .int v] M M' := by
  refine CV.mk (own := RX7) (ls0 := [(0, .ref (ad k)), (1, .int i), (2, .int v)]) (by decide +kernel) rfl hap (Nat.le_of_ble_eq_true rfl) rfl ?_
  intro p l e s m args below meth c ls E hP hl
  have hx := E.1
  have hb := E.2.1
  have hS : va_S (AW 78 ad) s.heap s.heap [] := va_S.rf
  have hz : inb i n = false → W p l e ({ frames := 0, cells := 0, slots := 0, locals := 0 } : Room) s m args below meth c s.heap [] 0 0 (QV below G 78 (shX cA ad) ad args s M') (F0 m 18 ls []) := by
    intro q
    rw [show M' = M by rw [← h]; simp [putX, q]]
    exact x_vret E hP hS dX7_put_18
  refine lv_aload_n (pc := 0) hx hb dX7_put_0 rfl (lv_at hl 0 rfl) ?_
  refine lv_ifnull (pc := 1) hx hb dX7_put_1 ?_
  refine lv_iload_n (pc := 4) hx hb dX7_put_4 rfl (lv_at hl 1 rfl) ?_
  refine lv_if_lt (pc := 5) (tgt := 18) hx hb dX7_put_5 (by decide) (fun c1 => hz (inb_neg c1)) (fun c1 => ?_)
  refine lv_iload_n (pc := 8) hx hb dX7_put_8 rfl (lv_at hl 1 rfl) ?_
  refine lv_aload_n (pc := 9) hx hb dX7_put_9 rfl (lv_at hl 0 rfl) ?_
  refine x_alen (pc := 10) E hP hk hs 0 rfl rfl dX7_put_10 ?_
  refine lv_icmp_ge (pc := 11) (tgt := 18) hx hb dX7_put_11 (by decide) (fun c2 => hz (inb_big hn c1 c2)) (fun c2 => ?_)
  have hi := inb_of hn c1 c2
  refine lv_aload_n (pc := 14) hx hb dX7_put_14 rfl (lv_at hl 0 rfl) ?_
  refine lv_iload_n (pc := 15) hx hb dX7_put_15 rfl (lv_at hl 1 rfl) ?_
  refine lv_iload_n (pc := 16) hx hb dX7_put_16 rfl (lv_at hl 2 rfl) ?_
  refine x_iast (pc := 17) (j := i.toNatClampNeg) E hP hS hk hs 0 rfl (inb_in hi) rfl dX7_put_17 (fun H locs hP hS => ?_)
  rw [show wr M k i.toNatClampNeg v = M' by rw [← h]; simp [putX, hi]] at hP
  exact x_vret E hP hS dX7_put_18
theorem copy_step (M : Mem) (k k' i : Nat) : wr (setR M k' (fun j => if j < i then M k j else M k' j)) k' i ((setR M k' (fun j => if j < i then M k j else M k' j)) k i) = setR M k' (fun j => if j < i + 1 then M k j else M k' j) := by
  have hv : (setR M k' (fun j => if j < i then M k j else M k' j)) k i = M k i := by
    by_cases h : k = k'
    · subst h; simp [setR]
    · simp [setR, h]
  rw [hv]
  unfold wr
  rw [setR_setR]
  congr 1
  funext j
  show (if j = i then M k i else (setR M k' _) k' j) = _
  by_cases h : j = i
  · subst h; simp
  · have h1 : (j < i + 1) = (j < i) := by apply propext; omega
    simp [h, setR, h1]
set_option maxHeartbeats 4000000 in
theorem c_copyRow (hap : Apart 78 ad) (M : Mem) {k k' n : Nat} (hk : k < 78) (hs : ∀ row, shX cA ad k row = .inl (cA, n, .inl row)) (hk' : k' < 78) (hs' : ∀ row, shX cA ad k' row = .inl (cA, n, .inl row)) (hn : n < 2 ^ 31) (M' : Mem) (h : copyX M k k' n = M') : XV G ad sK sV cA cZ cC yX7_copyRow cX7_copyRow 3 ({ frames := 0, cells := 0, slots := 0, locals := 0 } : Room) [.ref (ad k), .ref (ad k')] M M' := by
  refine CV.mk (own := RX7) (ls0 := [(0, .ref (ad k)), (1, .ref (ad k'))]) (by decide +kernel) rfl hap (Nat.le_of_ble_eq_true rfl) rfl ?_
  intro p l e s m args below meth c ls E hP hl
  have hx := E.1
  have hb := E.2.1
  have hS : va_S (AW 78 ad) s.heap s.heap [] := va_S.rf
  have hL : ∀ (d i : Nat) (H : Heap) (locs : List Loc) (ls : Array Slot), i + d = n → va_P G vwCl (WW 78 (shX cA ad) ad (setR M k' (fun j => if j < i then M k j else M k' j))) H → va_S (AW 78 ad) s.heap H locs → lv_has ls 3 [(0, .ref (ad k)), (1, .ref (ad k')), (2, .int (nI i))] → W p l e ({ frames := 0, cells := 0, slots := 0, locals := 0 } : Room) s m args below meth c H locs 0 0 (QV below G 78 (shX cA ad) ad args s M') (F0 m 11 ls []) := by
    intro d
    induction d with
    | zero =>
      intro i H locs ls hi hP hS hl
      refine lv_iload_n (pc := 11) hx hb dX7_copyRow_11 rfl (lv_at hl 2 rfl) ?_
      refine lv_aload_n (pc := 12) hx hb dX7_copyRow_12 rfl (lv_at hl 0 rfl) ?_
      refine x_alen (pc := 13) E hP hk hs 0 rfl rfl dX7_copyRow_13 ?_
      refine lv_icmp_ge (pc := 14) (tgt := 35) hx hb dX7_copyRow_14 (by decide) (fun c1 => ?_) (fun c1 => absurd (nI_le (show n ≤ i by omega) (by omega)) c1)
      obtain rfl : i = n := by omega
      rw [show (setR M k' (fun j => if j < i then M k j else M k' j)) = M' from h] at hP
      exact x_vret E hP hS dX7_copyRow_35
    | succ d ih =>
      intro i H locs ls hi hP hS hl
      refine lv_iload_n (pc := 11) hx hb dX7_copyRow_11 rfl (lv_at hl 2 rfl) ?_
      refine lv_aload_n (pc := 12) hx hb dX7_copyRow_12 rfl (lv_at hl 0 rfl) ?_
      refine x_alen (pc := 13) E hP hk hs 0 rfl rfl dX7_copyRow_13 ?_
      refine lv_icmp_ge (pc := 14) (tgt := 35) hx hb dX7_copyRow_14 (by decide) (fun c1 => absurd c1 (nI_ge (show i < n by omega) hn)) (fun c1 => ?_)
      refine lv_iload_n (pc := 17) hx hb dX7_copyRow_17 rfl (lv_at hl 2 rfl) ?_
      refine lv_aload_n (pc := 18) hx hb dX7_copyRow_18 rfl (lv_at hl 1 rfl) ?_
      refine x_alen (pc := 19) E hP hk' hs' 0 rfl rfl dX7_copyRow_19 ?_
      refine lv_icmp_ge (pc := 20) (tgt := 35) hx hb dX7_copyRow_20 (by decide) (fun c1 => absurd c1 (nI_ge (show i < n by omega) hn)) (fun c1 => ?_)
      have hin : vp_in (nI i) n := vp_in_nI (show i < n by omega) hn
      refine lv_aload_n (pc := 23) hx hb dX7_copyRow_23 rfl (lv_at hl 1 rfl) ?_
      refine lv_iload_n (pc := 24) hx hb dX7_copyRow_24 rfl (lv_at hl 2 rfl) ?_
      refine lv_aload_n (pc := 25) hx hb dX7_copyRow_25 rfl (lv_at hl 0 rfl) ?_
      refine lv_iload_n (pc := 26) hx hb dX7_copyRow_26 rfl (lv_at hl 2 rfl) ?_
      refine x_iald (pc := 27) (j := i) E hP hk hs 0 rfl hin (nI_clamp (by omega)) dX7_copyRow_27 ?_
      refine x_iast (pc := 28) (j := i) E hP hS hk' hs' 0 rfl hin (nI_clamp (by omega)) dX7_copyRow_28 (fun H locs hP hS => ?_)
      rw [copy_step] at hP
      refine lv_iinc (pc := 29) (v := nI (i + 1)) (lv' := [(2, .int (nI (i + 1))), (0, .ref (ad k)), (1, .ref (ad k'))]) hx hb dX7_copyRow_29 hl (k := 2) rfl (nI_1 i) (by decide) rfl (fun ls hl => ?_)
      refine lv_goto (pc := 32) (tgt := 11) hx hb dX7_copyRow_32 (by decide) ?_
      exact ih (i + 1) _ _ _ (by omega) hP hS (lv_sub hl [1, 2, 0] rfl)
  refine lv_aload_n (pc := 0) hx hb dX7_copyRow_0 rfl (lv_at hl 0 rfl) ?_
  refine lv_ifnull (pc := 1) hx hb dX7_copyRow_1 ?_
  refine lv_aload_n (pc := 4) hx hb dX7_copyRow_4 rfl (lv_at hl 1 rfl) ?_
  refine lv_ifnonnull (pc := 5) (tgt := 9) hx hb dX7_copyRow_5 (by decide) ?_
  refine lv_iconst (pc := 9) (v := (0 : Int32)) hx hb dX7_copyRow_9 (by decide) ?_
  refine lv_istore_n (pc := 10) (lv' := [(2, .int (0 : Int32)), (0, .ref (ad k)), (1, .ref (ad k'))]) hx hb dX7_copyRow_10 rfl hl (by decide) rfl (fun ls hl => ?_)
  refine hL n 0 _ _ _ (by omega) ?_ hS (lv_sub hl [1, 2, 0] rfl)
  rw [show (fun j => if j < 0 then M k j else M k' j) = M k' from by funext j; simp, setR_self]
  exact hP
theorem c_slot (hap : Apart 78 ad) (M : Mem) (x : Int32) : CR G (TY cA cZ cC) (ExX ad sK sV) 78 (shX cA ad) ad yX7_slotState cX7_slotState 2 (.object "ResetRooms$State") ({ frames := 0, cells := 0, slots := 0, locals := 0 } : Room) [.ref (ad 0), .int x] M (slotK x) := by
  intro l
  refine Met.ofW (cc := cX7_slotState) (maxL := 2) (ret := some (.object "ResetRooms$State")) (by decide +kernel) rfl ?_
  intro p e s m args below meth c s₁ B hml hv
  obtain ⟨rfl, hP, hK, hN⟩ := hv
  have hl := lv_entry [.ref (ad 0), .int x] (n := 2) (Nat.le_of_ble_eq_true rfl)
  rw [lg_entry_eq]
  generalize (lg_sl [.ref (ad 0), .int x] ++ List.replicate (2 - (lg_sl [.ref (ad 0), .int x]).length) Slot.unset).toArray = ls at hl ⊢
  have hl : lv_has ls 2 [(0, .ref (ad 0)), (1, .int x)] := hl
  have E : EV G (TY cA cZ cC) (ExX ad sK sV) 78 ad p s m [Value.ref (ad 0), .int x].toArray meth c RX7 cX7_slotState 2 (some (.object "ResetRooms$State")) := ⟨B.exec, B.bytes, hml, B.returns, B.notSynchronized, findClass_of_methodNamed B.named, fun w hw => atoms_spec (ws := .code yX7_slotState cX7_slotState 2 (some (.object "ResetRooms$State")) :: TB) B.pre w (List.mem_cons_of_mem _ hw), hK, hN, hap⟩
  have hx := E.1
  have hb := E.2.1
  have hS : va_S (AW 78 ad) s.heap s.heap [] := va_S.rf
  refine lv_iload_n (pc := 0) hx hb dX7_slotState_0 rfl (lv_at hl 1 rfl) ?_
  refine lv_if_ne (pc := 1) (tgt := 11) hx hb dX7_slotState_1 (by decide) (fun c1 => ?_) (fun c1 => ?_)
  · refine lv_aload_n (pc := 11) hx hb dX7_slotState_11 rfl (lv_at hl 0 rfl) ?_
    refine x_get (pc := 12) (v := .ref (ad 45)) E hP (by decide) sh7 rfl inX7 3 (by decide) q295 rfl dX7_slotState_12 ?_
    exact W.aret hx hb E.2.2.2.1 (Or.inl ⟨_, rfl⟩) (Or.inr ⟨_, rfl⟩) (fun t ht _ => ⟨⟨(), ad 45, rfl, trivial, by simp [slotK, c1], by rw [← ht] at hP; exact hP⟩, hS.F ht⟩) hS.2.2 dX7_slotState_15 E.2.2.2.2.1
  · refine lv_aload_n (pc := 4) hx hb dX7_slotState_4 rfl (lv_at hl 0 rfl) ?_
    refine x_get (pc := 5) (v := .ref (ad 24)) E hP (by decide) sh7 rfl inX7 2 (by decide) q294 rfl dX7_slotState_5 ?_
    refine lv_goto (pc := 8) (tgt := 15) hx hb dX7_slotState_8 (by decide) ?_
    exact W.aret hx hb E.2.2.2.1 (Or.inl ⟨_, rfl⟩) (Or.inr ⟨_, rfl⟩) (fun t ht _ => ⟨⟨(), ad 24, rfl, trivial, by simp [slotK, c1], by rw [← ht] at hP; exact hP⟩, hS.F ht⟩) hS.2.2 dX7_slotState_15 E.2.2.2.2.1
end XG
section XC
variable {G : va_G} {tys : List (ClassId × FieldType)} {Ex : State → Prop} {N : Nat} {sh : Nat → (Nat → Int32) → va_E} {ad : Nat → Nat} {M : Mem}
variable {p : Program} {l : Launch} {e : Env} {R : Room} {s : State} {m : MethodId} {args : Array Value} {below : List Frame} {meth : Method} {c : Code} {H : Heap} {locs : List Loc} {Q : State → Prop}
variable {own : String} {b : ByteArray} {n : Nat} {ret : Option FieldType} {pc : Nat} {ls : Array Slot} {rest : List Value}
theorem x_callVr {y : MethodName} {b' : ByteArray} {n' : Nat} {ty : FieldType} {rm : Room} {As : List Value} {k k2 ci idx na : Nat} {fs : (Nat → Int32) → List Value} {C : String} {q : u_T × Nat} {st : List Value}
    (E : EV G tys Ex N ad p s m args meth c own b n ret) (hEx : ExOK Ex N ad) (hl : ls.size = n) (hP : va_P G vwCl (WW N sh ad M) H) (hS : va_S (AW N ad) s.heap H locs)
    (hC : CR G tys Ex N sh ad y b' n' ty rm (.ref (ad k) :: As) M k2) (hG : GoodIn TB (wsV own idx C y (.code y b' n' (some ty) :: TB)))
    (hd : y.cls = C ∧ y.cls ≠ "java/lang/invoke/MethodHandle" ∧ y.cls ≠ "java/lang/invoke/VarHandle" ∧ (parseMethodDescriptor y.desc).map (fun d => d.parameters.length) = some na) (hna : As.length = na)
    (hk : k < N) (hs : ∀ row, sh k row = .inr (ci, fs row)) (hc : vwCl[ci]? = some (C, q)) (hR : rm.frames + 1 ≤ R.frames ∧ 8 + (n' + 11) + rm.locals ≤ R.locals) (hz : rm.cells = 0 ∧ rm.slots = 0)
    (hdg : decode b pc = .ok (.invokevirtual idx, 3)) (hst : st = As.reverse ++ .ref (ad k) :: rest) (hcat : (rest.map fun v => v.category).sum ≤ 8)
    (kk : ∀ H1 locs1, va_P G vwCl (WW N sh ad M) H1 → va_S (AW N ad) s.heap H1 locs1 → W p l e R s m args below meth c H1 locs1 0 0 Q (F0 m (pc + 3) ls (.ref (ad k2) :: rest))) :
    W p l e R s m args below meth c H locs 0 0 Q (F0 m pc ls st) := by
  subst hst
  refine va_callr (va_runV (As := As) (rest := rest) ⟨E.1, E.2.1, E.2.2.1, E.2.2.2.2.2.1, E.2.2.2.2.2.2.1⟩ (hC l) (cwV na E.2.2.2.2.2.2.1 hG rfl hz.1 hz.2 hd hR) ⟨PW.blind hEx, va_recv E.2.2.2.2.2.2.2.1 hP (ci := ci) (q0 := k) hc (by rw [WW_get hk, hs]), PW.at hEx E hP hS⟩ rfl hna hl rfl (lv_room hcat) hdg ⟨Nat.zero_le _, Nat.zero_le _⟩) hS (fun q _ h => h) (fun q h => h) (fun u a t H1 locs1 ht hvm hw hB hz1 hk1 hS1 => ?_)
  obtain ⟨rfl, hB⟩ := hB
  rw [ht] at hB
  exact kk H1 locs1 hB hS1
theorem x_ldcs {sK sV : Nat → Nat} {j idx : Nat} (E : EV G tys (ExX ad sK sV) N ad p s m args meth c own b n ret) (hj : j < 13) (ho : ownS.getD j "" = own) (hi : idxS.getD j 0 = idx) (hdg : decode b pc = .ok (.ldc idx, 2))
    (kk : W p l e R s m args below meth c H locs 0 0 Q (F0 m (pc + 2) ls (.ref (sK j) :: rest))) : W p l e R s m args below meth c H locs 0 0 Q (F0 m pc ls rest) := by
  subst ho
  subst hi
  exact va_ldcS E.1 E.2.1 E.2.2.2.2.2.1 (E.2.2.2.2.2.2.2.2.1.2.1 j hj) hdg kk
theorem x_ldcws {sK sV : Nat → Nat} {j idx : Nat} (E : EV G tys (ExX ad sK sV) N ad p s m args meth c own b n ret) (hj : j < 13) (ho : ownS.getD j "" = own) (hi : idxS.getD j 0 = idx) (hdg : decode b pc = .ok (.ldc_w idx, 3))
    (kk : W p l e R s m args below meth c H locs 0 0 Q (F0 m (pc + 3) ls (.ref (sK j) :: rest))) : W p l e R s m args below meth c H locs 0 0 Q (F0 m pc ls rest) := by
  have hZ := E.2.2.2.2.2.2.2.2.1.2.1 j hj
  rw [ho, hi] at hZ
  obtain ⟨k, cf, i, a', hk, hcf, hcp, -, hr, hev⟩ := Cond.stringRef_spec E.2.2.2.2.2.1 hZ.1
  obtain rfl := Value.ref.inj (Option.some.inj (hZ.2.symm.trans hev))
  intro T hT X
  obtain ⟨t, a1, b1⟩ := kk T hT X
  refine ⟨t, ?_, b1⟩
  obtain ⟨k', hk', he⟩ := X.warmed.alike.2.2 _ _ hk
  have hr' : k'.resolved[idx]? = some (some (.string (sK j))) := by
    rcases X.warmed.entry hk hk' idx with h | ⟨h, -⟩
    · exact h.trans hr
    · exact absurd (hr.symm.trans h) (by simp)
  have hdg' : decode c.code pc = .ok (.ldc_w idx, 3) := by rw [E.2.1]; exact hdg
  jvm_step X.here [E.1, hdg', Op.ldc_w.wp_string (e := e) (s := T) (f := F0 m pc ls rest) X.here.top hk' (by rw [he]; exact hcf) hcp hr']
  exact a1
end XC
