/-! constructors: how objects come, and the memory that they leave -/
def ExN (U : State) : Prop := ∀ w ∈ nestW, va_Nw w U
theorem ExN.ok (N : Nat) (ad : Nat → Nat) : ExOK ExN N ad := by
  refine ⟨fun U g mk a h w hw => ?_, fun s U H locs h hS hU hW w hw => ?_⟩
  · obtain ⟨a, i, x, hh, rfl⟩ := nestM_ok w hw
    exact va_Nw.same rfl rfl (h _ hw)
  · obtain ⟨a, i, x, hh, rfl⟩ := nestM_ok w hw
    exact va_Nw.warmM hW (h _ hw)
theorem ExN.moved {s U : State} (h : ExN s) (hW : s.WarmedH U.vm) : ExN U := fun w hw => by
  obtain ⟨a, i, x, hh, rfl⟩ := nestM_ok w hw
  exact va_Nw.warmM hW (h _ hw)
abbrev EN (G : va_G) (tys : List (ClassId × FieldType)) (p : Program) (s : State) (m : MethodId) (args : Array Value) (meth : Method) (c : Code) (own : String) (b : ByteArray) (n : Nat) (ret : Option FieldType) : Prop := EV G tys ExN 0 (fun k => k) p s m args meth c own b n ret
def A1 (h0 sz : Nat) : Nat → Prop := fun q => q = h0 ∨ sz ≤ q
def MkC (G : va_G) (tys : List (ClassId × FieldType)) (y : MethodName) (b : ByteArray) (n : Nat) (rm : Room) (ci : Nat) (fs : List Value) (N : Nat) (sh : (Nat → Nat) → Nat → (Nat → Int32) → va_E) (M : Mem) (mc ms : Nat) : Prop :=
  ∀ (l : Launch) (h0 sz : Nat), Met l y (.code y b n none :: TB) rm (va_Pc [.ref h0] (fun U => U.heap.size = sz ∧ va_P G vwCl [(h0, .inr (ci, fs))] U.heap ∧ va_K G vwCl tys U ∧ ExN U)) (va_Qv (fun ad : Nat → Nat => ad 0 = h0) (fun ad t => va_P G vwCl (WW N (sh ad) ad M) t.heap ∧ va_D (A1 h0 sz) (WW N (sh ad) ad M)) (A1 h0 sz)) mc ms (A1 h0 sz)
abbrev QM (below : List Frame) (G : va_G) (N : Nat) (sh : (Nat → Nat) → Nat → (Nat → Int32) → va_E) (M : Mem) (mc ms h0 : Nat) (args : Array Value) (s : State) : State → Prop :=
  MQ below (va_Qv (fun ad : Nat → Nat => ad 0 = h0) (fun ad t => va_P G vwCl (WW N (sh ad) ad M) t.heap ∧ va_D (A1 h0 s.heap.size) (WW N (sh ad) ad M)) (A1 h0 s.heap.size)) args s mc ms (A1 h0 s.heap.size)
section MKC
variable {G : va_G} {tys : List (ClassId × FieldType)} {y : MethodName} {b : ByteArray} {n : Nat} {rm : Room} {ci : Nat} {fs : List Value} {N : Nat} {sh : (Nat → Nat) → Nat → (Nat → Int32) → va_E} {M : Mem} {mc ms : Nat}
theorem D_one {A : Nat → Prop} {h0 : Nat} {e : va_E} (h : A h0) : va_D A [(h0, e)] := by
  refine ⟨fun i j p q hp hq _ => ?_, fun k q hq => ?_⟩
  · have h1 := (List.getElem?_eq_some_iff.mp hp).1
    have h2 := (List.getElem?_eq_some_iff.mp hq).1
    simp at h1 h2
    omega
  · have h1 := (List.getElem?_eq_some_iff.mp hq).1
    simp at h1
    subst h1
    cases hq
    exact h
theorem MkC.mk {own : String} (hy : plainName y.cls = true) (ho : y.cls = own) (hyn : y.name = "<init>") (hn : 1 ≤ n)
    (h : ∀ (p : Program) (l : Launch) (e : Env) (s : State) (m : MethodId) (args : Array Value) (below : List Frame) (meth : Method) (c : Code) (ls : Array Slot) (h0 : Nat), EN G tys p s m args meth c own b n none → meth.name = "<init>" → va_P G vwCl [(h0, .inr (ci, fs))] s.heap → va_D (A1 h0 s.heap.size) [(h0, .inr (ci, fs))] → (∀ q, s.heap.size ≤ q → A1 h0 s.heap.size q) → lv_has ls n [(0, .ref h0)] →
      W p l e rm s m args below meth c s.heap [] 0 0 (QM below G N sh M mc ms h0 args s) (F0 m 0 ls [])) : MkC G tys y b n rm ci fs N sh M mc ms := by
  intro l h0 sz
  subst ho
  refine Met.ofW (cc := b) (maxL := n) (ret := none) hy rfl ?_
  intro p e s m args below meth c s₁ B hml hv
  obtain ⟨rfl, hsz, hP, hK, hN⟩ := hv
  subst hsz
  have hl := lv_entry [.ref h0] (n := n) hn
  rw [lg_entry_eq]
  exact h p l e s m _ below meth c _ h0 ⟨B.exec, B.bytes, hml, B.returns, B.notSynchronized, findClass_of_methodNamed B.named, fun w hw => atoms_spec (ws := .code y b n none :: TB) B.pre w (List.mem_cons_of_mem _ hw), hK, hN, fun i j hi => absurd hi (Nat.not_lt_zero _)⟩ ((name_of_methodNamed B.named B.method).1.trans hyn) hP (D_one (Or.inl rfl)) (fun q hq => Or.inr hq) hl
end MKC
section MKX
variable {G : va_G} {tys : List (ClassId × FieldType)}
variable {p : Program} {l : Launch} {e : Env} {R : Room} {s : State} {m : MethodId} {args : Array Value} {below : List Frame} {meth : Method} {c : Code} {H : Heap} {locs : List Loc} {Q : State → Prop} {cells slots : Nat}
variable {own : String} {b : ByteArray} {n : Nat} {ret : Option FieldType} {pc : Nat} {ls : Array Slot} {rest : List Value} {A : Nat → Prop} {ws : va_W}
theorem x_mret {N : Nat} {sh : (Nat → Nat) → Nat → (Nat → Int32) → va_E} {M : Mem} {mc ms h0 : Nat} (E : EN G tys p s m args meth c own b n none) (ad : Nat → Nat) (ha : ad 0 = h0) (hP : va_P G vwCl (WW N (sh ad) ad M) H) (hD : va_D (A1 h0 s.heap.size) (WW N (sh ad) ad M)) (hS : va_S (A1 h0 s.heap.size) s.heap H locs) (hdg : decode b pc = .ok (.return_, 1)) :
    W p l e R s m args below meth c H locs mc ms (QM below G N sh M mc ms h0 args s) (F0 m pc ls []) :=
  W.vret E.1 E.2.1 E.2.2.2.1 (fun t ht _ => ⟨⟨ad, rfl, ha, by rw [ht]; exact hP, hD⟩, hS.F ht⟩) hS.2.2 hdg E.2.2.2.2.1
/-- Object's own constructor -/
theorem x_obj {idx : Nat} {a : Nat} (E : EN G tys p s m args meth c own b n ret) (hl : ls.size = n) (hlink : Cond.methodLink own idx objectInit ∈ TB) (hR : 1 ≤ R.frames ∧ (rest.map fun v => v.category).sum + 12 ≤ R.locals) (hdg : decode b pc = .ok (.invokespecial idx, 3))
    (kk : W p l e R s m args below meth c H locs cells slots Q (F0 m (pc + 3) ls rest)) : W p l e R s m args below meth c H locs cells slots Q (F0 m pc ls (.ref a :: rest)) :=
  W.objInit E.1 E.2.1 E.2.2.2.2.2.1 (E.2.2.2.2.2.2.1 _ hlink) (E.2.2.2.2.2.2.1 _ q37) (E.2.2.2.2.2.2.1 _ q38) rfl (by rw [E.2.2.1]; exact hl) rfl hdg hR.1 (by simpa using hR.2) kk
/-- a row of zeros comes -/
theorem x_newr {atype : ArrayType} {ty : FieldType} {cA : ClassId} {N' : Nat} {v : Int32} (E : EN G tys p s m args meth c own b n ret) (hP : va_P G vwCl ws H) (hD : va_D A ws) (hS : va_S A s.heap H locs) (hA : ∀ q, s.heap.size ≤ q → A q) (t0 : Nat) (ht : tys[t0]? = some (cA, ty)) (hty : newarray.typeOf atype = ty) (hprim : ∀ U k, va_RA U k ty → U.vm.findClass ("[" ++ ty.toString) = some k) (hdef : defaultValue ty = .int 0) (harr : Cond.arrayClass ty ∈ TB)
    (hv : ¬ v < 0) (hN : v.toNatClampNeg = N') (hbytes : N' * componentBytes ty ≤ 536870912) (hc : cells + 1 ≤ R.cells) (hs : slots + N' ≤ R.slots) (hdg : decode b pc = .ok (.newarray atype, 2))
    (kk : ∀ (q : Nat) (H1 : Heap), va_P G vwCl (ws ++ [(q, .inl (cA, N', .inl fun _ => 0))]) H1 → va_D A (ws ++ [(q, .inl (cA, N', .inl fun _ => 0))]) → va_S A s.heap H1 locs → W p l e R s m args below meth c H1 locs (cells + 1) (slots + N') Q (F0 m (pc + 2) ls (.ref q :: rest))) :
    W p l e R s m args below meth c H locs cells slots Q (F0 m pc ls (.int v :: rest)) := by
  subst hty
  have hK := E.2.2.2.2.2.2.2.1
  refine va_newa (D := G) (cl := vwCl) E.1 E.2.1 (E.2.2.2.2.2.2.1 _ harr) rfl hK hP hD hS hA (a0 := (N', .inl fun _ => 0)) (fun k => by rw [hdef]; rfl) hv hN hbytes hc hs hdg (fun q cA' H1 hK1 hP1 hD1 hS1 => ?_)
  have h1 := hprim _ _ (hK.2 t0 _ ht).2
  have h2 := hprim s cA' (hK1.2 tys.length (cA', newarray.typeOf atype) (by rw [List.getElem?_append_right (Nat.le_refl _)]; simp)).2
  have h3 : cA' = cA := Option.some.inj (h2.symm.trans h1)
  subst h3
  exact kk q H1 hP1 hD1 hS1
/-- new, dup, and the constructor's call: the object's cells come behind the others -/
theorem x_mk {y : MethodName} {b' : ByteArray} {n' : Nat} {rm : Room} {ci : Nat} {fs : List Value} {N : Nat} {sh : (Nat → Nat) → Nat → (Nat → Int32) → va_E} {M : Mem} {mc ms idx idx2 : Nat} {C : String} {T : u_T} {NN : Nat}
    (E : EN G tys p s m args meth c own b n ret) (hl : ls.size = n) (hP : va_P G vwCl ws H) (hD : va_D A ws) (hS : va_S A s.heap H locs) (hA : ∀ q, s.heap.size ≤ q → A q)
    (hC : MkC G tys y b' n' rm ci fs N sh M mc ms) (hc : vwCl[ci]? = some (C, T, NN)) (hin : ∀ w ∈ u_ws C T NN, w ∈ TB) (tyf : Nat → FieldType) (hty : ∀ k, k < NN → parseFieldDescriptor (T k).2.2.1 = some (tyf k)) (hcl : Cond.classLink own idx C ∈ TB) (hinst : Cond.instantiable C NN ∈ TB) (hini : Cond.initialized C ∈ TB) (hfs : ∀ j, j < NN → defaultValue (tyf j) = vp_V fs j)
    (hcells : cells + 1 + mc ≤ R.cells) (hslots : slots + NN + ms ≤ R.slots)
    (call : (va_CN R s args own idx2 y RX7 b' n' none (.code y b' n' none :: TB) rm mc ms 0 ∧ y.name = "<init>" ∧ (Cond.instanceMethod y).before args s = true) ∨ (CallB R s args own idx2 y b' n' none (.code y b' n' none :: TB) rm mc ms 0 ∧ y.name = "<init>" ∧ (Cond.instanceMethod y).before args s = true))
    (d1 : decode b pc = .ok (.new idx, 3)) (d2 : decode b (pc + 3) = .ok (.dup, 1)) (d3 : decode b (pc + 3 + 1) = .ok (.invokespecial idx2, 3)) (hcat : 1 + (rest.map fun v => v.category).sum ≤ 8)
    (kk : ∀ (ad : Nat → Nat) (H1 : Heap) (locs1 : List Loc), va_P G vwCl (ws ++ WW N (sh ad) ad M) H1 → va_D A (ws ++ WW N (sh ad) ad M) → va_S A s.heap H1 locs1 → W p l e R s m args below meth c H1 locs1 (cells + 1 + mc) (slots + NN + ms) Q (F0 m (pc + 3 + 1 + 3) ls (.ref (ad 0) :: rest))) :
    W p l e R s m args below meth c H locs cells slots Q (F0 m pc ls rest) := by
  have hts := E.2.2.2.2.2.2.1
  have hK := E.2.2.2.2.2.2.2.1
  have hown := E.2.2.2.2.2.1
  refine va_new (D := G) (cl := vwCl) (ci := ci) (C := C) (T := T) (N := NN) (fs := fs) E.1 E.2.1 hts hin tyf hty hown (hts _ hcl) (hts _ hinst) (hts _ hini) hK hP hD hS hA hc hfs (by omega) (by omega) d1 (fun q H1 hP1 hD1 hS1 => ?_)
  refine lv_dup E.1 E.2.1 d2 rfl ?_
  have hlast : (ws ++ [(q, (.inr (ci, fs) : va_E))])[ws.length]? = some (q, .inr (ci, fs)) := by simp
  have hleft : ∀ (k : Nat) (x : Nat × va_E), ws[k]? = some x → k < ws.length ∧ (ws ++ [(q, (.inr (ci, fs) : va_E))])[k]? = some x := fun k x hx => by
    have hk := (List.getElem?_eq_some_iff.mp hx).1
    exact ⟨hk, by rw [List.getElem?_append_left hk]; exact hx⟩
  have hPc : va_P G vwCl [(q, .inr (ci, fs))] H1 := fun k x hx => by
    have hk := (List.getElem?_eq_some_iff.mp hx).1
    simp at hk
    subst hk
    cases hx
    exact hP1 ws.length _ hlast
  have hAq : ∀ x, A1 q H1.size x → A x := fun x hx => by
    rcases hx with rfl | hx
    · exact hD1.2 ws.length _ hlast
    · exact hA x (Nat.le_trans hS1.1 hx)
  have hPre : PreS s H1 (va_Pc [.ref q] (fun U => U.heap.size = H1.size ∧ va_P G vwCl [(q, .inr (ci, fs))] U.heap ∧ va_K G vwCl tys U ∧ ExN U)) [.ref q] := by
    refine ⟨fun a U g mk h => ?_, fun U hU hW => ⟨rfl, by rw [hU], by rw [hU]; exact hPc, va_K.moved hW.alike hK, ExN.moved E.2.2.2.2.2.2.2.2.1 hW⟩⟩
    obtain ⟨h0, h1, h2, h3, h4⟩ := h
    exact ⟨h0, h1, h2, va_K.moved (u := U) (U := U.calling g mk a) (Vm.Alike.refl U.vm) h3, (ExN.ok 0 fun k => k).1 U g mk a h4⟩
  have hrun : va_Run p l e R s m args below meth c H1 locs (cells + 1) (slots + NN) mc ms (F0 m (pc + 3 + 1) ls (.ref q :: .ref q :: rest)) (.ref q :: rest) (va_Qv (fun ad : Nat → Nat => ad 0 = q) (fun ad t => va_P G vwCl (WW N (sh ad) ad M) t.heap ∧ va_D (A1 q H1.size) (WW N (sh ad) ad M)) (A1 q H1.size) [Value.ref q].toArray) (A1 q H1.size) := by
    rcases call with call | call
    · exact va_runIN (As := []) (rest := .ref q :: rest) ⟨E.1, E.2.1, E.2.2.1, hown, hts⟩ (hC l q H1.size) call hPre rfl rfl hl rfl (lv_room hcat) d3 ⟨hcells, hslots⟩
    · exact va_runI (As := []) (rest := .ref q :: rest) ⟨E.1, E.2.1, E.2.2.1, hown, hts⟩ (hC l q H1.size) call hPre rfl rfl hl rfl (lv_room hcat) d3 ⟨hcells, hslots⟩
  refine va_callv hrun hS1 (fun x _ h => hAq x h) hAq (fun ad t H2 locs2 ht hvm hw hB hz1 hk1 hS2 => ?_)
  rw [ht] at hB
  obtain ⟨hB1, hB2⟩ := hB
  have hout : ∀ (k : Nat) (x : Nat × va_E), ws[k]? = some x → x.1 < H1.size ∧ ¬ A1 q H1.size x.1 := fun k x hx => by
    obtain ⟨h1, h2⟩ := hleft k x hx
    have h3 := (hP1 k x h2).lt
    refine ⟨h3, fun h => ?_⟩
    rcases h with h | h
    · have := hD1.1 k ws.length x _ h2 hlast h
      omega
    · omega
  have hPw : va_P G vwCl ws H2 := (show va_P G vwCl ws H1 from fun k x hx => hP1 k x (hleft k x hx).2).kept fun k x hx => hk1 x.1 (hout k x hx).1 (hout k x hx).2
  have hDw : va_D A ws := ⟨fun i j p' q' hp hq he => hD1.1 i j p' q' (hleft i p' hp).2 (hleft j q' hq).2 he, fun k x hx => hD1.2 k x (hleft k x hx).2⟩
  have hk := kk ad H2 locs2 (hPw.app hB1) (hDw.app (hB2.weaken fun k x _ h => hAq x.1 h) (fun i j p' q' hp hq he => (hout i p' hp).2 (he ▸ hB2.2 j q' hq))) hS2
  rw [hw] at hk
  exact hk
/-- a final field of the object that is being made -/
theorem x_putQ {ci : Nat} {fs : List Value} {h0 q : Nat} {tl : va_W} (E : EN G tys p s m args meth c own b n ret) (hin : meth.name = "<init>") (hP : va_P G vwCl ((h0, .inr (ci, fs)) :: tl) H) (hD : va_D A ((h0, .inr (ci, fs)) :: tl)) (hS : va_S A s.heap H locs) {C : String} {T : u_T} {NN index : Nat} (tyf : Nat → FieldType) (hty : ∀ k, k < NN → parseFieldDescriptor (T k).2.2.1 = some (tyf k)) (hnm : ∀ a, a < NN → ∀ b, b < NN → a ≠ b → (T a).2.1 ≠ (T b).2.1) (hc : vwCl[ci]? = some (C, T, NN)) (hw : ∀ w ∈ u_ws C T NN, w ∈ TB) (i : Nat) (hi : i < NN) (hlink : Cond.fieldLink own index (T i).1 (T i).2.1 (T i).2.2.1 ∈ TB) (hfin : (T i).2.2.2 = true) (hdecl : (T i).1 = own) (hn : narrow (tyf i) (.ref q) = .ref q) (hfit : fits (tyf i) (.ref q) = true) (hl : i < fs.length) (hdg : decode b pc = .ok (.putfield index, 3))
    (kk : ∀ H1 locs1, va_P G vwCl ((h0, .inr (ci, fs.set i (.ref q))) :: tl) H1 → va_D A ((h0, .inr (ci, fs.set i (.ref q))) :: tl) → va_S A s.heap H1 locs1 → W p l e R s m args below meth c H1 locs1 cells slots Q (F0 m (pc + 3) ls rest)) : W p l e R s m args below meth c H locs cells slots Q (F0 m pc ls (.ref q :: .ref h0 :: rest)) :=
  va_putF (D := G) (cl := vwCl) (ci := ci) (C := C) (T := T) (N := NN) (fs := fs) (v := .ref q) (ty := tyf i) E.1 E.2.1 E.2.2.2.2.2.2.1 hw tyf hty hnm E.2.2.2.2.2.1 E.2.2.2.2.2.2.2.1 hP hD hS 0 rfl hc i hi (E.2.2.2.2.2.2.1 _ hlink) (fun _ h => h) hfin hin hdecl (hty i hi) hn hfit hl hdg (fun H1 locs1 hP1 hD1 hS1 => kk H1 locs1 hP1 hD1 hS1)
/-- a field of ints of the object that is being made -/
theorem x_putI {ci : Nat} {fs : List Value} {h0 : Nat} {v : Int32} {tl : va_W} (E : EN G tys p s m args meth c own b n ret) (hP : va_P G vwCl ((h0, .inr (ci, fs)) :: tl) H) (hD : va_D A ((h0, .inr (ci, fs)) :: tl)) (hS : va_S A s.heap H locs) {C : String} {T : u_T} {NN index : Nat} (tyf : Nat → FieldType) (hty : ∀ k, k < NN → parseFieldDescriptor (T k).2.2.1 = some (tyf k)) (hnm : ∀ a, a < NN → ∀ b, b < NN → a ≠ b → (T a).2.1 ≠ (T b).2.1) (hc : vwCl[ci]? = some (C, T, NN)) (hw : ∀ w ∈ u_ws C T NN, w ∈ TB) (i : Nat) (hi : i < NN) (hlink : Cond.fieldLink own index (T i).1 (T i).2.1 (T i).2.2.1 ∈ TB) (hfin : (T i).2.2.2 = false) (hn : narrow (tyf i) (.int v) = .int v) (hfit : fits (tyf i) (.int v) = true) (hl : i < fs.length) (hdg : decode b pc = .ok (.putfield index, 3))
    (kk : ∀ H1 locs1, va_P G vwCl ((h0, .inr (ci, fs.set i (.int v))) :: tl) H1 → va_D A ((h0, .inr (ci, fs.set i (.int v))) :: tl) → va_S A s.heap H1 locs1 → W p l e R s m args below meth c H1 locs1 cells slots Q (F0 m (pc + 3) ls rest)) : W p l e R s m args below meth c H locs cells slots Q (F0 m pc ls (.int v :: .ref h0 :: rest)) :=
  va_put (D := G) (cl := vwCl) (ci := ci) (C := C) (T := T) (N := NN) (fs := fs) (v := .int v) (ty := tyf i) E.1 E.2.1 E.2.2.2.2.2.2.1 hw tyf hty hnm E.2.2.2.2.2.1 E.2.2.2.2.2.2.2.1 hP hD hS 0 rfl hc i hi (E.2.2.2.2.2.2.1 _ hlink) (fun _ h => h) hfin (hty i hi) hn hfit hl hdg (fun H1 locs1 hP1 hD1 hS1 => kk H1 locs1 hP1 hD1 hS1)
/-- a reference of the object that is being made is read -/
theorem x_getQ {ci : Nat} {fs : List Value} {h0 : Nat} {v : Value} {tl : va_W} (E : EN G tys p s m args meth c own b n ret) (hP : va_P G vwCl ((h0, .inr (ci, fs)) :: tl) H) {C : String} {T : u_T} {NN index : Nat} (hc : vwCl[ci]? = some (C, T, NN)) (hw : ∀ w ∈ u_ws C T NN, w ∈ TB) (i : Nat) (hi : i < NN) (hlink : Cond.fieldLink own index (T i).1 (T i).2.1 (T i).2.2.1 ∈ TB) (hv : fs[i]? = some v) (hdg : decode b pc = .ok (.getfield index, 3))
    (kk : W p l e R s m args below meth c H locs cells slots Q (F0 m (pc + 3) ls (v :: rest))) : W p l e R s m args below meth c H locs cells slots Q (F0 m pc ls (.ref h0 :: rest)) :=
  va_get (D := G) (cl := vwCl) (ci := ci) (C := C) (T := T) (N := NN) (fs := fs) (v := v) E.1 E.2.1 E.2.2.2.2.2.2.1 hw E.2.2.2.2.2.1 E.2.2.2.2.2.2.2.1 hP 0 rfl hc i hi (E.2.2.2.2.2.2.1 _ hlink) (fun _ h => h) hv hdg kk
theorem P_put {ws : va_W} {k a : Nat} {e0 e : va_E} {H H1 : Heap} (hP : va_P G vwCl ws H) (hD : va_D A ws) (hp : ws[k]? = some (a, e0)) (hnew : va_P G vwCl [(a, e)] H1) (hk : ∀ q, q < H.size → q ≠ a → H1[q]? = H[q]?) : va_P G vwCl (ws.set k (a, e)) H1 := by
  intro j x hx
  rw [List.getElem?_set] at hx
  by_cases h : k = j
  · subst h
    rw [if_pos rfl] at hx
    by_cases h2 : k < ws.length
    · rw [if_pos h2] at hx
      cases hx
      exact hnew 0 _ rfl
    · rw [if_neg h2] at hx
      cases hx
  · rw [if_neg h] at hx
    exact (hP j x hx).kept (hk x.1 (hP j x hx).lt (fun he => h (hD.1 k j (a, e0) x hp hx he.symm)))
theorem Apart_one (ad : Nat → Nat) : Apart 1 ad := fun i j hi hj _ => by omega
theorem c_put1 {Ex : State → Prop} {cA : ClassId} {ad : Nat → Nat} (ht : tys[0]? = some (cA, .int)) (M : Mem) {n : Nat} (hn : n < 2 ^ 31) (i v : Int32) (M' : Mem) (h : putX M 0 n i v = M') : CV G tys Ex 1 (fun _ row => .inl (cA, n, .inl row)) ad yX7_put cX7_put 3 ({ frames := 0, cells := 0, slots := 0, locals := 0 } : Room) [.ref (ad 0), .int i, .int v] M M' := by
  refine CV.mk (own := RX7) (ls0 := [(0, .ref (ad 0)), (1, .int i), (2, .int v)]) (by decide +kernel) rfl (Apart_one ad) (Nat.le_of_ble_eq_true rfl) rfl ?_
  intro p l e s m args below meth c ls E hP hl
  have hx := E.1
  have hb := E.2.1
  have hS : va_S (AW 1 ad) s.heap s.heap [] := va_S.rf
  have hz : inb i n = false → W p l e ({ frames := 0, cells := 0, slots := 0, locals := 0 } : Room) s m args below meth c s.heap [] 0 0 (QV below G 1 (fun _ row => .inl (cA, n, .inl row)) ad args s M') (F0 m 18 ls []) := by
    intro q
    rw [show M' = M by rw [← h]; simp [putX, q]]
    exact x_vret E hP hS dX7_put_18
  refine lv_aload_n (pc := 0) hx hb dX7_put_0 rfl (lv_at hl 0 rfl) ?_
  refine lv_ifnull (pc := 1) hx hb dX7_put_1 ?_
  refine lv_iload_n (pc := 4) hx hb dX7_put_4 rfl (lv_at hl 1 rfl) ?_
  refine lv_if_lt (pc := 5) (tgt := 18) hx hb dX7_put_5 (by decide) (fun c1 => hz (inb_neg c1)) (fun c1 => ?_)
  refine lv_iload_n (pc := 8) hx hb dX7_put_8 rfl (lv_at hl 1 rfl) ?_
  refine lv_aload_n (pc := 9) hx hb dX7_put_9 rfl (lv_at hl 0 rfl) ?_
  refine x_alen (pc := 10) (k := 0) E hP (by decide) (fun _ => rfl) 0 ht rfl dX7_put_10 ?_
  refine lv_icmp_ge (pc := 11) (tgt := 18) hx hb dX7_put_11 (by decide) (fun c2 => hz (inb_big hn c1 c2)) (fun c2 => ?_)
  have hi := inb_of hn c1 c2
  refine lv_aload_n (pc := 14) hx hb dX7_put_14 rfl (lv_at hl 0 rfl) ?_
  refine lv_iload_n (pc := 15) hx hb dX7_put_15 rfl (lv_at hl 1 rfl) ?_
  refine lv_iload_n (pc := 16) hx hb dX7_put_16 rfl (lv_at hl 2 rfl) ?_
  refine x_iast (pc := 17) (k := 0) (j := i.toNatClampNeg) E hP hS (by decide) (fun _ => rfl) 0 ht (inb_in hi) rfl dX7_put_17 (fun H locs hP hS => ?_)
  rw [show wr M 0 i.toNatClampNeg v = M' by rw [← h]; simp [putX, hi]] at hP
  exact x_vret E hP hS dX7_put_18
end MKX
