/-! the law's walk: both worlds, side by side -/
theorem rel_s : Rel 0 exX inR := by
  refine rel_0 (fun k h1 h2 i => ?_) rfl rfl ?_ rfl ⟨rfl, rfl⟩
  · have e : exX k = stM (k - 3) := by
      unfold exX
      rw [if_neg (by omega), if_pos h2]
    rw [e]
    have hk : k = 3 ∨ k = 4 ∨ k = 8 ∨ (k ≠ 3 ∧ k ≠ 4 ∧ k ≠ 8) := by omega
    rcases hk with rfl | rfl | rfl | ⟨h3, h4, h8⟩
    · show (if i = 7 then (60 : Int32) else if i = 8 then 3 else 0) = _
      unfold inX
      by_cases a : i = 7
      · subst a; rfl
      · by_cases b : i = 8
        · subst b; rfl
        · simp [a, b]
    · show (if i = 0 then (1 : Int32) else 0) = _
      unfold inX
      by_cases a : i = 0
      · subst a; rfl
      · simp [a]
    · show upd (fun _ => (0 : Int32)) 0 1 i = _
      unfold inX
      by_cases a : i = 0
      · subst a; rfl
      · simp [a, upd]
    · have hz : inX k i = 0 := by simp [inX, h3, h4, h8]
      rw [hz]
      have hk : ∀ q, q < 21 → q ≠ 0 → q ≠ 1 → q ≠ 5 → stM q i = 0 := by
        intro q hq h0 h1 h5
        unfold stM
        rw [if_neg h0]
        by_cases hq13 : q < 13
        · rw [if_pos hq13]
          match q, h0, h1, h5 with
          | 2, _, _, _ => rfl
          | 3, _, _, _ => rfl
          | 4, _, _, _ => rfl
          | q + 6, _, _, _ => rfl
        · rw [if_neg hq13]
      exact hk _ (by omega) (by omega) (by omega) (by omega)
  · funext j
    show upd (upd (upd (upd (fun _ => (0 : Int32)) 0 1) 56 1) 6 60) 7 3 j = zI (ini j)
    unfold ini
    by_cases a : j = 0
    · subst a; rfl
    · by_cases b : j = 56
      · subst b; rfl
      · by_cases c : j = 6
        · subst c; rfl
        · by_cases d : j = 7
          · subst d; rfl
          · rw [if_neg a, if_neg b, if_neg c, if_neg d]
            simp [upd, a, b, c, d]
            rfl
def LW (G : va_G) (cA cZ cC : ClassId) (ax ar : Nat → Nat) (X R : Mem) (s : State) (H : Heap) (locs : List Loc) : Prop :=
  va_P G vwCl (WW 78 (shX cA ax) ax X) H ∧ va_P G vwCl (WW 7 (shR cA cZ cC ar) ar R) H ∧ va_S (fun q => s.heap.size ≤ q) s.heap H locs
def LE (G : va_G) (sK sV : Nat → Nat) (cA cZ cC : ClassId) (ax ar : Nat → Nat) (p : Program) (s : State) (m : MethodId) (args : Array Value) (meth : Method) (c : Code) (b L : Nat) (xs : Nat → Int32) : Prop :=
  EN G (TY cA cZ cC) p s m args meth c RL code 4 ret ∧ ExX ax sK sV s ∧ Apart 78 ax ∧ Apart 7 ar ∧ (∀ i j, i < 78 → j < 7 → ax i ≠ ar j) ∧ (∀ i, i < 78 → s.heap.size ≤ ax i) ∧ (∀ j, j < 7 → s.heap.size ≤ ar j) ∧ va_X b L xs s s.heap ∧ b < s.heap.size
section LAW
variable {G : va_G} {sK sV : Nat → Nat} {cA cZ cC : ClassId} {ax ar : Nat → Nat} {X R : Mem} {L b : Nat} {xs : Nat → Int32}
variable {p : Program} {l : Launch} {e : Env} {Ro : Room} {s : State} {m : MethodId} {args : Array Value} {below : List Frame} {meth : Method} {c : Code} {H : Heap} {locs : List Loc} {Q : State → Prop} {cells slots : Nat}
variable {pc : Nat} {ls : Array Slot} {rest st : List Value}
theorem lx_call {y : MethodName} {b' : ByteArray} {n' : Nat} {rm : Room} {As : List Value} {v : Int32} {X' : Mem} {idx na : Nat} (E : LE G sK sV cA cZ cC ax ar p s m args meth c b L xs) (hl : ls.size = 4) (h : LW G cA cZ cC ax ar X R s H locs) (hroom : cells ≤ Ro.cells ∧ slots ≤ Ro.slots)
    (hC : XI G ax sK sV cA cZ cC y b' n' .int rm (.ref (ax 0) :: As) X v X') (hG : GoodIn TB (wsV RL idx RX7 y (.code y b' n' (some .int) :: TB)))
    (hd : y.cls = RX7 ∧ y.cls ≠ "java/lang/invoke/MethodHandle" ∧ y.cls ≠ "java/lang/invoke/VarHandle" ∧ (parseMethodDescriptor y.desc).map (fun d => d.parameters.length) = some na) (hna : As.length = na)
    (hR : rm.frames + 1 ≤ Ro.frames ∧ 8 + (n' + 11) + rm.locals ≤ Ro.locals) (hz : rm.cells = 0 ∧ rm.slots = 0)
    (hdg : decode code pc = .ok (.invokevirtual idx, 3)) (hst : st = As.reverse ++ .ref (ax 0) :: rest) (hcat : (rest.map fun v => v.category).sum ≤ 8)
    (kk : ∀ H1 locs1, LW G cA cZ cC ax ar X' R s H1 locs1 → W p l e Ro s m args below meth c H1 locs1 cells slots Q (F0 m (pc + 3) ls (.int v :: rest))) :
    W p l e Ro s m args below meth c H locs cells slots Q (F0 m pc ls st) := by
  subst hst
  obtain ⟨E, hEx, hax, har, hdis, hlx, hlr, -, -⟩ := E
  have hts := E.2.2.2.2.2.2.1
  have hK := E.2.2.2.2.2.2.2.1
  have hpre : ∀ U : State, U.heap = H → s.WarmedH U.vm → va_Pc (.ref (ax 0) :: As) (PW G (TY cA cZ cC) (ExX ax sK sV) 78 (shX cA ax) ax X) (Value.ref (ax 0) :: As).toArray U := fun U hU hW =>
    ⟨rfl, by rw [hU]; exact h.1, va_K.moved hW.alike hK, (ExX.ok ax sK sV).2 s U H [] hEx ⟨h.2.2.1, fun q h1 _ => h.2.2.2.1 q h1 (Nat.not_le.mpr h1), fun _ hq => absurd hq List.not_mem_nil⟩ hU hW⟩
  have hin : ∀ q, AW 78 ax q → s.heap.size ≤ q := fun q hq => by
    obtain ⟨i, hi, rfl⟩ := hq
    exact hlx i hi
  refine va_calli (va_runV (As := As) (rest := rest) ⟨E.1, E.2.1, E.2.2.1, E.2.2.2.2.2.1, hts⟩ (hC l) (cwV na hts hG rfl hz.1 hz.2 hd hR) ⟨PW.blind (ExX.ok ax sK sV), va_recv hK h.1 (ci := 7) (q0 := 0) rfl (WW_get (by decide)), hpre⟩ rfl hna hl rfl (lv_room hcat) hdg ⟨hroom.1, hroom.2⟩) h.2.2 (fun q _ hq => hin q hq) hin (fun r u t H1 locs1 ht hvm hw hB hz1 hk1 hS1 => ?_)
  obtain ⟨rfl, hnr⟩ := hw
  rw [ht] at hB
  refine kk H1 locs1 ⟨hB, h.2.1.kept fun k q hq => hk1 q.1 (h.2.1 k q hq).lt fun hz => ?_, hS1⟩
  obtain ⟨hk', rfl⟩ := WW_in hq
  obtain ⟨i, hi, hz⟩ := hz
  exact hdis i k hi hk' hz.symm
theorem lr_call {y : MethodName} {b' : ByteArray} {n' : Nat} {rm : Room} {As : List Value} {v : Int32} {R' : Mem} {idx na : Nat} (E : LE G sK sV cA cZ cC ax ar p s m args meth c b L xs) (hl : ls.size = 4) (h : LW G cA cZ cC ax ar X R s H locs) (hroom : cells ≤ Ro.cells ∧ slots ≤ Ro.slots)
    (hC : RI G ar cA cZ cC y b' n' .int rm (.ref (ar 0) :: As) R v R') (hG : GoodIn TB (wsV RL idx RX8 y (.code y b' n' (some .int) :: TB)))
    (hd : y.cls = RX8 ∧ y.cls ≠ "java/lang/invoke/MethodHandle" ∧ y.cls ≠ "java/lang/invoke/VarHandle" ∧ (parseMethodDescriptor y.desc).map (fun d => d.parameters.length) = some na) (hna : As.length = na)
    (hR : rm.frames + 1 ≤ Ro.frames ∧ 8 + (n' + 11) + rm.locals ≤ Ro.locals) (hz : rm.cells = 0 ∧ rm.slots = 0)
    (hdg : decode code pc = .ok (.invokevirtual idx, 3)) (hst : st = As.reverse ++ .ref (ar 0) :: rest) (hcat : (rest.map fun v => v.category).sum ≤ 8)
    (kk : ∀ H1 locs1, LW G cA cZ cC ax ar X R' s H1 locs1 → W p l e Ro s m args below meth c H1 locs1 cells slots Q (F0 m (pc + 3) ls (.int v :: rest))) :
    W p l e Ro s m args below meth c H locs cells slots Q (F0 m pc ls st) := by
  subst hst
  obtain ⟨E, hEx, hax, har, hdis, hlx, hlr, -, -⟩ := E
  have hts := E.2.2.2.2.2.2.1
  have hK := E.2.2.2.2.2.2.2.1
  have hpre : ∀ U : State, U.heap = H → s.WarmedH U.vm → va_Pc (.ref (ar 0) :: As) (PW G (TY cA cZ cC) ExR 7 (shR cA cZ cC ar) ar R) (Value.ref (ar 0) :: As).toArray U := fun U hU hW =>
    ⟨rfl, by rw [hU]; exact h.2.1, va_K.moved hW.alike hK, trivial⟩
  have hin : ∀ q, AW 7 ar q → s.heap.size ≤ q := fun q hq => by
    obtain ⟨i, hi, rfl⟩ := hq
    exact hlr i hi
  refine va_calli (va_runV (As := As) (rest := rest) ⟨E.1, E.2.1, E.2.2.1, E.2.2.2.2.2.1, hts⟩ (hC l) (cwV na hts hG rfl hz.1 hz.2 hd hR) ⟨PW.blind (ExR.ok 7 ar), va_recv hK h.2.1 (ci := 8) (q0 := 0) rfl (WW_get (by decide)), hpre⟩ rfl hna hl rfl (lv_room hcat) hdg ⟨hroom.1, hroom.2⟩) h.2.2 (fun q _ hq => hin q hq) hin (fun r u t H1 locs1 ht hvm hw hB hz1 hk1 hS1 => ?_)
  obtain ⟨rfl, hnr⟩ := hw
  rw [ht] at hB
  refine kk H1 locs1 ⟨h.1.kept fun k q hq => hk1 q.1 (h.1 k q hq).lt fun hz => ?_, hB, hS1⟩
  obtain ⟨hk', rfl⟩ := WW_in hq
  obtain ⟨i, hi, hz⟩ := hz
  exact hdis k i hk' hi hz
/-- a word of the script, behind the call's first -/
theorem l_word {j k : Nat} {kz : Int} (E : LE G sK sV cA cZ cC ax ar p s m args meth c b L xs) (hl : lv_has ls 4 [(3, .int (nI j)), (2, .ref (ar 0)), (1, .ref (ax 0)), (0, .ref b)]) (h : LW G cA cZ cC ax ar X R s H locs) (hL : L ≤ 2048) (hj : j + k < L) (hk : Int32.ofInt kz = nI k)
    (d1 : decode code pc = .ok (.aload_n 0, 1)) (d2 : decode code (pc + 1) = .ok (.iload_n 3, 1)) (d3 : decode code (pc + 1 + 1) = .ok (.iconst kz, 1)) (d4 : decode code (pc + 1 + 1 + 1) = .ok (.iadd, 1)) (d5 : decode code (pc + 1 + 1 + 1 + 1) = .ok (.iaload, 1))
    (kk : W p l e Ro s m args below meth c H locs cells slots Q (F0 m (pc + 1 + 1 + 1 + 1 + 1) ls (.int (xs (j + k)) :: rest))) :
    W p l e Ro s m args below meth c H locs cells slots Q (F0 m pc ls rest) := by
  obtain ⟨E, hEx, hax, har, hdis, hlx, hlr, hX, hbl⟩ := E
  refine lv_aload_n E.1 E.2.1 d1 rfl (lv_at hl 3 rfl) ?_
  refine lv_iload_n E.1 E.2.1 d2 rfl (lv_at hl 0 rfl) ?_
  refine lv_iconst E.1 E.2.1 d3 hk ?_
  refine lv_iadd E.1 E.2.1 d4 ?_
  rw [nI_add]
  refine va_sld E.1 E.2.1 hX hbl (Nat.not_le.mpr hbl) h.2.2 (nI_in hj (by omega)) d5 ?_
  rw [nI_clamp (show j + k < 2 ^ 31 by omega)]
  exact kk
end LAW
