theorem gIn {ws : List Cond} (h : ∀ w ∈ ws, w ∈ TB) : GoodIn TB ws := fun w hw => ⟨h w hw, good_of_word (TBg w (h w hw))⟩
theorem gV {own : String} {idx : Nat} {C : String} {y : MethodName} {b : ByteArray} {n : Nat} {ret : Option FieldType} (h1 : Cond.methodLink own idx y ∈ TB) (h2 : Cond.instanceMethod y ∈ TB) (h3 : Cond.selects C y y ∈ TB) (h4 : Cond.initialized C ∈ TB) (h5 : Cond.code y b n ret ∈ TB) : GoodIn TB (wsV own idx C y (.code y b n ret :: TB)) := by
  refine gIn fun w hw => ?_
  simp only [wsV, List.cons_append, List.nil_append, List.mem_cons] at hw
  rcases hw with rfl | rfl | rfl | rfl | rfl | hw <;> assumption
theorem gS {own : String} {idx : Nat} {y : MethodName} {b : ByteArray} {n : Nat} {ret : Option FieldType} (h1 : Cond.methodLink own idx y ∈ TB) (h2 : Cond.static y ∈ TB) (h4 : Cond.initialized y.cls ∈ TB) (h5 : Cond.code y b n ret ∈ TB) : GoodIn TB (va_wsS own idx y (.code y b n ret :: TB)) := by
  refine gIn fun w hw => ?_
  simp only [va_wsS, List.cons_append, List.nil_append, List.mem_cons] at hw
  rcases hw with rfl | rfl | rfl | rfl | hw <;> assumption
theorem gC {y : MethodName} {b : ByteArray} {n : Nat} {ret : Option FieldType} (h5 : Cond.code y b n ret ∈ TB) : GoodIn TB (.code y b n ret :: TB) := by
  refine gIn fun w hw => ?_
  rcases List.mem_cons.mp hw with rfl | hw <;> assumption
/-! the memory: a row of ints for each cell -/
abbrev Mem : Type := Nat → Nat → Int32
def setR (M : Mem) (k : Nat) (row : Nat → Int32) : Mem := fun j => if j = k then row else M j
def wr (M : Mem) (k i : Nat) (v : Int32) : Mem := setR M k (upd (M k) i v)
def WW (N : Nat) (sh : Nat → (Nat → Int32) → va_E) (ad : Nat → Nat) (M : Mem) : va_W := (List.range N).map fun k => (ad k, sh k (M k))
theorem WW_get {N : Nat} {sh : Nat → (Nat → Int32) → va_E} {ad : Nat → Nat} {M : Mem} {k : Nat} (hk : k < N) : (WW N sh ad M)[k]? = some (ad k, sh k (M k)) := by
  simp [WW, List.getElem?_map, List.getElem?_range, hk]
theorem WW_in {N : Nat} {sh : Nat → (Nat → Int32) → va_E} {ad : Nat → Nat} {M : Mem} {k : Nat} {q : Nat × va_E} (h : (WW N sh ad M)[k]? = some q) : k < N ∧ q = (ad k, sh k (M k)) := by
  have hk : k < N := by
    have := (List.getElem?_eq_some_iff.mp h).1
    simpa [WW] using this
  exact ⟨hk, (Option.some.inj ((WW_get hk).symm.trans h)).symm⟩
theorem WW_set {N : Nat} {sh : Nat → (Nat → Int32) → va_E} {ad : Nat → Nat} {M : Mem} {k : Nat} (row : Nat → Int32) : (WW N sh ad M).set k (ad k, sh k row) = WW N sh ad (setR M k row) := by
  apply List.ext_getElem?
  intro i
  by_cases hi : i < N
  · rw [WW_get hi, List.getElem?_set]
    have hlen : (WW N sh ad M).length = N := by simp [WW]
    by_cases hik : k = i
    · subst hik
      rw [if_pos rfl, if_pos (by rw [hlen]; exact hi)]
      simp [setR]
    · rw [if_neg hik, WW_get hi]
      simp [setR, Ne.symm hik]
  · rw [List.getElem?_eq_none (by simp [WW]; omega), List.getElem?_eq_none (by simp [WW]; omega)]
def AW (N : Nat) (ad : Nat → Nat) : Nat → Prop := fun q => ∃ k, k < N ∧ q = ad k
def Apart (N : Nat) (ad : Nat → Nat) : Prop := ∀ i j, i < N → j < N → ad i = ad j → i = j
theorem WW_D {N : Nat} {sh : Nat → (Nat → Int32) → va_E} {ad : Nat → Nat} {M : Mem} (h : Apart N ad) : va_D (AW N ad) (WW N sh ad M) := by
  refine ⟨fun i j p q hp hq e => ?_, fun k q hq => ?_⟩
  · obtain ⟨hi, rfl⟩ := WW_in hp
    obtain ⟨hj, rfl⟩ := WW_in hq
    exact h i j hi hj e
  · obtain ⟨hi, rfl⟩ := WW_in hq
    exact ⟨k, hi, rfl⟩
/-! what a method finds -/
/-- what a method needs beside its world and the tables: it outlives calls and writes within the world -/
def ExOK (Ex : State → Prop) (N : Nat) (ad : Nat → Nat) : Prop := (∀ (U : State) (g : JFrame) (mk : MethodId) (a : Array Value), Ex U → Ex (U.calling g mk a)) ∧ ∀ (s U : State) (H : Heap) (locs : List Loc), Ex s → va_S (AW N ad) s.heap H locs → U.heap = H → s.WarmedH U.vm → Ex U
def PW (G : va_G) (tys : List (ClassId × FieldType)) (Ex : State → Prop) (N : Nat) (sh : Nat → (Nat → Int32) → va_E) (ad : Nat → Nat) (M : Mem) (U : State) : Prop :=
  va_P G vwCl (WW N sh ad M) U.heap ∧ va_K G vwCl tys U ∧ Ex U
/-- the circumstances of a method's walk -/
def EV (G : va_G) (tys : List (ClassId × FieldType)) (Ex : State → Prop) (N : Nat) (ad : Nat → Nat) (p : Program) (s : State) (m : MethodId) (args : Array Value) (meth : Method) (c : Code) (own : String) (b : ByteArray) (n : Nat) (ret : Option FieldType) : Prop :=
  p.tables.exec = Jvm.exec ∧ c.code = b ∧ c.maxLocals = n ∧ meth.sig.returnType = ret ∧ meth.locks = false ∧ s.vm.findClass own = some m.cls ∧ (∀ w ∈ TB, w.before args s = true) ∧ va_K G vwCl tys s ∧ Ex s ∧ Apart N ad
/-- an int comes back (or a boolean, a char): v; the memory is M' then -/
def CI (G : va_G) (tys : List (ClassId × FieldType)) (Ex : State → Prop) (N : Nat) (sh : Nat → (Nat → Int32) → va_E) (ad : Nat → Nat) (y : MethodName) (b : ByteArray) (n : Nat) (ty : FieldType) (rm : Room) (av : List Value) (M : Mem) (v : Int32) (M' : Mem) : Prop :=
  ∀ l : Launch, Met l y (.code y b n (some ty) :: TB) rm (va_Pc av (PW G tys Ex N sh ad M)) (va_Qi (fun r (_ : Unit) => r = v ∧ narrow ty (.int r) = .int r) (fun _ t => va_P G vwCl (WW N sh ad M') t.heap) (AW N ad)) 0 0 (AW N ad)
def CV (G : va_G) (tys : List (ClassId × FieldType)) (Ex : State → Prop) (N : Nat) (sh : Nat → (Nat → Int32) → va_E) (ad : Nat → Nat) (y : MethodName) (b : ByteArray) (n : Nat) (rm : Room) (av : List Value) (M : Mem) (M' : Mem) : Prop :=
  ∀ l : Launch, Met l y (.code y b n none :: TB) rm (va_Pc av (PW G tys Ex N sh ad M)) (va_Qv (fun (_ : Unit) => True) (fun _ t => va_P G vwCl (WW N sh ad M') t.heap) (AW N ad)) 0 0 (AW N ad)
abbrev QI (below : List Frame) (G : va_G) (N : Nat) (sh : Nat → (Nat → Int32) → va_E) (ad : Nat → Nat) (ty : FieldType) (args : Array Value) (s : State) (v : Int32) (M' : Mem) : State → Prop :=
  MQ below (va_Qi (fun r (_ : Unit) => r = v ∧ narrow ty (.int r) = .int r) (fun _ t => va_P G vwCl (WW N sh ad M') t.heap) (AW N ad)) args s 0 0 (AW N ad)
abbrev QV (below : List Frame) (G : va_G) (N : Nat) (sh : Nat → (Nat → Int32) → va_E) (ad : Nat → Nat) (args : Array Value) (s : State) (M' : Mem) : State → Prop :=
  MQ below (va_Qv (fun (_ : Unit) => True) (fun _ t => va_P G vwCl (WW N sh ad M') t.heap) (AW N ad)) args s 0 0 (AW N ad)
section MK
variable {G : va_G} {tys : List (ClassId × FieldType)} {Ex : State → Prop} {N : Nat} {sh : Nat → (Nat → Int32) → va_E} {ad : Nat → Nat} {y : MethodName} {b : ByteArray} {n : Nat} {ty : FieldType} {rm : Room} {av : List Value} {M : Mem} {v : Int32} {M' : Mem}
theorem CI.mk {ls0 : List (Nat × Value)} {own : String} (hy : plainName y.cls = true) (ho : y.cls = own) (hap : Apart N ad) (hn : (lg_sl av).length ≤ n) (hls : lv_args 0 av = ls0)
    (h : ∀ (p : Program) (l : Launch) (e : Env) (s : State) (m : MethodId) (args : Array Value) (below : List Frame) (meth : Method) (c : Code) (ls : Array Slot), EV G tys Ex N ad p s m args meth c own b n (some ty) → va_P G vwCl (WW N sh ad M) s.heap → lv_has ls n ls0 →
      W p l e rm s m args below meth c s.heap [] 0 0 (QI below G N sh ad ty args s v M') (F0 m 0 ls [])) : CI G tys Ex N sh ad y b n ty rm av M v M' := by
  intro l
  subst ho
  refine Met.ofW (cc := b) (maxL := n) (ret := some ty) hy rfl ?_
  intro p e s m args below meth c s₁ B hml hv
  obtain ⟨rfl, hP, hK, hN⟩ := hv
  have hl := lv_entry av (n := n) hn
  rw [lg_entry_eq]
  rw [hls] at hl
  exact h p l e s m _ below meth c _ ⟨B.exec, B.bytes, hml, B.returns, B.notSynchronized, findClass_of_methodNamed B.named, fun w hw => atoms_spec (ws := .code y b n (some ty) :: TB) B.pre w (List.mem_cons_of_mem _ hw), hK, hN, hap⟩ hP hl
theorem CV.mk {ls0 : List (Nat × Value)} {own : String} (hy : plainName y.cls = true) (ho : y.cls = own) (hap : Apart N ad) (hn : (lg_sl av).length ≤ n) (hls : lv_args 0 av = ls0)
    (h : ∀ (p : Program) (l : Launch) (e : Env) (s : State) (m : MethodId) (args : Array Value) (below : List Frame) (meth : Method) (c : Code) (ls : Array Slot), EV G tys Ex N ad p s m args meth c own b n none → va_P G vwCl (WW N sh ad M) s.heap → lv_has ls n ls0 →
      W p l e rm s m args below meth c s.heap [] 0 0 (QV below G N sh ad args s M') (F0 m 0 ls [])) : CV G tys Ex N sh ad y b n rm av M M' := by
  intro l
  subst ho
  refine Met.ofW (cc := b) (maxL := n) (ret := none) hy rfl ?_
  intro p e s m args below meth c s₁ B hml hv
  obtain ⟨rfl, hP, hK, hN⟩ := hv
  have hl := lv_entry av (n := n) hn
  rw [lg_entry_eq]
  rw [hls] at hl
  exact h p l e s m _ below meth c _ ⟨B.exec, B.bytes, hml, B.returns, B.notSynchronized, findClass_of_methodNamed B.named, fun w hw => atoms_spec (ws := .code y b n none :: TB) B.pre w (List.mem_cons_of_mem _ hw), hK, hN, hap⟩ hP hl
end MK
section XR
variable {G : va_G} {tys : List (ClassId × FieldType)} {Ex : State → Prop} {N : Nat} {sh : Nat → (Nat → Int32) → va_E} {ad : Nat → Nat} {M : Mem}
variable {p : Program} {l : Launch} {e : Env} {R : Room} {s : State} {m : MethodId} {args : Array Value} {below : List Frame} {meth : Method} {c : Code} {H : Heap} {locs : List Loc} {Q : State → Prop}
variable {own : String} {b : ByteArray} {n : Nat} {ret : Option FieldType} {pc : Nat} {ls : Array Slot} {rest : List Value}
theorem x_iret {ty : FieldType} {v : Int32} {M' : Mem} (E : EV G tys Ex N ad p s m args meth c own b n (some ty)) (hP : va_P G vwCl (WW N sh ad M') H) (hS : va_S (AW N ad) s.heap H locs) (hn : narrow ty (.int v) = .int v) (hdg : decode b pc = .ok (.ireturn, 1)) :
    W p l e R s m args below meth c H locs 0 0 (QI below G N sh ad ty args s v M') (F0 m pc ls [.int v]) :=
  W.zret (ty := ty) E.1 E.2.1 E.2.2.2.1 hn (fun t ht _ => ⟨⟨v, (), rfl, ⟨rfl, hn⟩, by rw [← ht] at hP; exact hP⟩, hS.F ht⟩) hS.2.2 hdg E.2.2.2.2.1
theorem x_vret {M' : Mem} (E : EV G tys Ex N ad p s m args meth c own b n none) (hP : va_P G vwCl (WW N sh ad M') H) (hS : va_S (AW N ad) s.heap H locs) (hdg : decode b pc = .ok (.return_, 1)) :
    W p l e R s m args below meth c H locs 0 0 (QV below G N sh ad args s M') (F0 m pc ls []) :=
  W.vret E.1 E.2.1 E.2.2.2.1 (fun t ht _ => ⟨⟨(), rfl, trivial, by rw [← ht] at hP; exact hP⟩, hS.F ht⟩) hS.2.2 hdg E.2.2.2.2.1
/-- a field is read -/
theorem x_get {k ci : Nat} {fs : (Nat → Int32) → List Value} (E : EV G tys Ex N ad p s m args meth c own b n ret) (hP : va_P G vwCl (WW N sh ad M) H) (hk : k < N) (hs : ∀ row, sh k row = .inr (ci, fs row)) {C : String} {T : u_T} {NN index : Nat} (hc : vwCl[ci]? = some (C, T, NN)) (hin : ∀ w ∈ u_ws C T NN, w ∈ TB) (i : Nat) (hi : i < NN)
    (hlink : Cond.fieldLink own index (T i).1 (T i).2.1 (T i).2.2.1 ∈ TB) {v : Value} (hv : (fs (M k))[i]? = some v) (hdg : decode b pc = .ok (.getfield index, 3))
    (kk : W p l e R s m args below meth c H locs 0 0 Q (F0 m (pc + 3) ls (v :: rest))) : W p l e R s m args below meth c H locs 0 0 Q (F0 m pc ls (.ref (ad k) :: rest)) :=
  va_get (D := G) (cl := vwCl) (ci := ci) (C := C) (T := T) (N := NN) (fs := fs (M k)) (v := v) E.1 E.2.1 E.2.2.2.2.2.2.1 hin E.2.2.2.2.2.1 E.2.2.2.2.2.2.2.1 hP k (by rw [WW_get hk, hs]) hc i hi (E.2.2.2.2.2.2.1 _ hlink) (fun _ h => h) hv hdg kk
/-- a field is written -/
theorem x_put {k ci : Nat} {fs : (Nat → Int32) → List Value} (E : EV G tys Ex N ad p s m args meth c own b n ret) (hP : va_P G vwCl (WW N sh ad M) H) (hS : va_S (AW N ad) s.heap H locs) (hk : k < N) (hs : ∀ row, sh k row = .inr (ci, fs row)) {C : String} {T : u_T} {NN index : Nat} (tyf : Nat → FieldType) (hty : ∀ k, k < NN → parseFieldDescriptor (T k).2.2.1 = some (tyf k)) (hnm : ∀ a, a < NN → ∀ b, b < NN → a ≠ b → (T a).2.1 ≠ (T b).2.1) (hc : vwCl[ci]? = some (C, T, NN)) (hin : ∀ w ∈ u_ws C T NN, w ∈ TB) (i : Nat) (hi : i < NN)
    (hlink : Cond.fieldLink own index (T i).1 (T i).2.1 (T i).2.2.1 ∈ TB) (hfin : (T i).2.2.2 = false) {v : Int32} (hn : narrow (tyf i) (.int v) = .int v) (hfit : fits (tyf i) (.int v) = true) (hl : i < (fs (M k)).length) (hset : (fs (M k)).set i (.int v) = fs (upd (M k) i v)) (hdg : decode b pc = .ok (.putfield index, 3))
    (kk : ∀ H1 locs1, va_P G vwCl (WW N sh ad (wr M k i v)) H1 → va_S (AW N ad) s.heap H1 locs1 → W p l e R s m args below meth c H1 locs1 0 0 Q (F0 m (pc + 3) ls rest)) : W p l e R s m args below meth c H locs 0 0 Q (F0 m pc ls (.int v :: .ref (ad k) :: rest)) := by
  refine va_put (D := G) (cl := vwCl) (ci := ci) (C := C) (T := T) (N := NN) (fs := fs (M k)) (v := .int v) (ty := tyf i) E.1 E.2.1 E.2.2.2.2.2.2.1 hin tyf hty hnm E.2.2.2.2.2.1 E.2.2.2.2.2.2.2.1 hP (WW_D E.2.2.2.2.2.2.2.2.2) hS k (by rw [WW_get hk, hs]) hc i hi (E.2.2.2.2.2.2.1 _ hlink) (fun _ h => h) hfin (hty i hi) hn hfit hl hdg (fun H1 locs1 hP1 _ hS1 => kk H1 locs1 ?_ hS1)
  rw [hset, ← hs, WW_set] at hP1
  exact hP1
/-- an array's element is read; its length -/
theorem x_iald {k len : Nat} {cA : ClassId} (E : EV G tys Ex N ad p s m args meth c own b n ret) (hP : va_P G vwCl (WW N sh ad M) H) (hk : k < N) (hs : ∀ row, sh k row = .inl (cA, len, .inl row)) (t0 : Nat) (ht : tys[t0]? = some (cA, .int)) {i : Int32} {j : Nat} (hin : vp_in i len) (hj : i.toNatClampNeg = j) (hdg : decode b pc = .ok (.iaload, 1))
    (kk : W p l e R s m args below meth c H locs 0 0 Q (F0 m (pc + 1) ls (.int (M k j) :: rest))) : W p l e R s m args below meth c H locs 0 0 Q (F0 m pc ls (.int i :: .ref (ad k) :: rest)) :=
  by subst hj; exact va_iald (D := G) (cl := vwCl) E.1 E.2.1 E.2.2.2.2.2.2.2.1 hP k t0 (f := M k) (n := len) (by rw [WW_get hk, hs]) ht hin hdg kk
theorem x_cald {k len : Nat} {cA : ClassId} (E : EV G tys Ex N ad p s m args meth c own b n ret) (hP : va_P G vwCl (WW N sh ad M) H) (hk : k < N) (hs : ∀ row, sh k row = .inl (cA, len, .inl row)) (t0 : Nat) (ht : tys[t0]? = some (cA, .char)) {i : Int32} {j : Nat} (hin : vp_in i len) (hj : i.toNatClampNeg = j) (hdg : decode b pc = .ok (.caload, 1))
    (kk : W p l e R s m args below meth c H locs 0 0 Q (F0 m (pc + 1) ls (.int (M k j) :: rest))) : W p l e R s m args below meth c H locs 0 0 Q (F0 m pc ls (.int i :: .ref (ad k) :: rest)) :=
  by subst hj; exact va_cald (D := G) (cl := vwCl) E.1 E.2.1 E.2.2.2.2.2.2.2.1 hP k t0 (f := M k) (n := len) (by rw [WW_get hk, hs]) ht hin hdg kk
theorem x_zald {k len : Nat} {cA : ClassId} (E : EV G tys Ex N ad p s m args meth c own b n ret) (hP : va_P G vwCl (WW N sh ad M) H) (hk : k < N) (hs : ∀ row, sh k row = .inl (cA, len, .inl row)) (t0 : Nat) (ht : tys[t0]? = some (cA, .boolean)) {i : Int32} {j : Nat} (hin : vp_in i len) (hj : i.toNatClampNeg = j) (hdg : decode b pc = .ok (.baload, 1))
    (kk : W p l e R s m args below meth c H locs 0 0 Q (F0 m (pc + 1) ls (.int (M k j) :: rest))) : W p l e R s m args below meth c H locs 0 0 Q (F0 m pc ls (.int i :: .ref (ad k) :: rest)) :=
  by subst hj; exact va_zald (D := G) (cl := vwCl) E.1 E.2.1 E.2.2.2.2.2.2.2.1 hP k t0 (f := M k) (n := len) (by rw [WW_get hk, hs]) ht hin hdg kk
theorem x_alen {k len : Nat} {cA : ClassId} (E : EV G tys Ex N ad p s m args meth c own b n ret) (hP : va_P G vwCl (WW N sh ad M) H) (hk : k < N) (hs : ∀ row, sh k row = .inl (cA, len, .inl row)) (t0 : Nat) {ty : FieldType} (ht : tys[t0]? = some (cA, ty)) {v : Int32} (hv : Int32.ofNat len = v) (hdg : decode b pc = .ok (.arraylength, 1))
    (kk : W p l e R s m args below meth c H locs 0 0 Q (F0 m (pc + 1) ls (.int v :: rest))) : W p l e R s m args below meth c H locs 0 0 Q (F0 m pc ls (.ref (ad k) :: rest)) :=
  va_alen (D := G) (cl := vwCl) E.1 E.2.1 E.2.2.2.2.2.2.2.1 hP k t0 (x := (len, .inl (M k))) (by rw [WW_get hk, hs]) ht hv hdg kk
theorem x_iast {k len : Nat} {cA : ClassId} (E : EV G tys Ex N ad p s m args meth c own b n ret) (hP : va_P G vwCl (WW N sh ad M) H) (hS : va_S (AW N ad) s.heap H locs) (hk : k < N) (hs : ∀ row, sh k row = .inl (cA, len, .inl row)) (t0 : Nat) (ht : tys[t0]? = some (cA, .int)) {i x : Int32} {j : Nat} (hin : vp_in i len) (hj : i.toNatClampNeg = j) (hdg : decode b pc = .ok (.iastore, 1))
    (kk : ∀ H1 locs1, va_P G vwCl (WW N sh ad (wr M k j x)) H1 → va_S (AW N ad) s.heap H1 locs1 → W p l e R s m args below meth c H1 locs1 0 0 Q (F0 m (pc + 1) ls rest)) : W p l e R s m args below meth c H locs 0 0 Q (F0 m pc ls (.int x :: .int i :: .ref (ad k) :: rest)) := by
  subst hj
  refine va_iast (D := G) (cl := vwCl) E.1 E.2.1 E.2.2.2.2.2.2.2.1 hP (WW_D E.2.2.2.2.2.2.2.2.2) hS k t0 (f := M k) (n := len) (by rw [WW_get hk, hs]) ht hin hdg (fun H1 locs1 hP1 _ hS1 => kk H1 locs1 ?_ hS1)
  rw [← hs, WW_set] at hP1
  exact hP1
/-- calls -/
theorem PW.blind {av : List Value} (hEx : ExOK Ex N ad) : FrameBlind (va_Pc av (PW G tys Ex N sh ad M)) := fun a U g mk q => by
  obtain ⟨q0, qP, qK, qN⟩ := q
  exact ⟨q0, qP, va_K.moved (u := U) (U := U.calling g mk a) (Vm.Alike.refl U.vm) qK, hEx.1 U g mk a qN⟩
theorem PW.at {av : List Value} (hEx : ExOK Ex N ad) (E : EV G tys Ex N ad p s m args meth c own b n ret) (hP : va_P G vwCl (WW N sh ad M) H) (hS : va_S (AW N ad) s.heap H locs) : ∀ U : State, U.heap = H → s.WarmedH U.vm → va_Pc av (PW G tys Ex N sh ad M) av.toArray U := fun U hU hW =>
  ⟨rfl, by rw [hU]; exact hP, va_K.moved hW.alike E.2.2.2.2.2.2.2.1, hEx.2 s U H locs E.2.2.2.2.2.2.2.2.1 hS hU hW⟩
theorem x_callVi {y : MethodName} {b' : ByteArray} {n' : Nat} {ty : FieldType} {rm : Room} {As : List Value} {v : Int32} {M' : Mem} {k ci idx na : Nat} {fs : (Nat → Int32) → List Value} {C : String} {q : u_T × Nat} {st : List Value}
    (E : EV G tys Ex N ad p s m args meth c own b n ret) (hEx : ExOK Ex N ad) (hl : ls.size = n) (hP : va_P G vwCl (WW N sh ad M) H) (hS : va_S (AW N ad) s.heap H locs)
    (hC : CI G tys Ex N sh ad y b' n' ty rm (.ref (ad k) :: As) M v M') (hG : GoodIn TB (wsV own idx C y (.code y b' n' (some ty) :: TB)))
    (hd : y.cls = C ∧ y.cls ≠ "java/lang/invoke/MethodHandle" ∧ y.cls ≠ "java/lang/invoke/VarHandle" ∧ (parseMethodDescriptor y.desc).map (fun d => d.parameters.length) = some na) (hna : As.length = na)
    (hk : k < N) (hs : ∀ row, sh k row = .inr (ci, fs row)) (hc : vwCl[ci]? = some (C, q)) (hR : rm.frames + 1 ≤ R.frames ∧ 8 + (n' + 11) + rm.locals ≤ R.locals) (hz : rm.cells = 0 ∧ rm.slots = 0)
    (hdg : decode b pc = .ok (.invokevirtual idx, 3)) (hst : st = As.reverse ++ .ref (ad k) :: rest) (hcat : (rest.map fun v => v.category).sum ≤ 8)
    (kk : ∀ H1 locs1, va_P G vwCl (WW N sh ad M') H1 → va_S (AW N ad) s.heap H1 locs1 → narrow ty (.int v) = .int v → W p l e R s m args below meth c H1 locs1 0 0 Q (F0 m (pc + 3) ls (.int v :: rest))) :
    W p l e R s m args below meth c H locs 0 0 Q (F0 m pc ls st) := by
  subst hst
  refine va_calli (va_runV (As := As) (rest := rest) ⟨E.1, E.2.1, E.2.2.1, E.2.2.2.2.2.1, E.2.2.2.2.2.2.1⟩ (hC l) (cwV na E.2.2.2.2.2.2.1 hG rfl hz.1 hz.2 hd hR) ⟨PW.blind hEx, va_recv E.2.2.2.2.2.2.2.1 hP (ci := ci) (q0 := k) hc (by rw [WW_get hk, hs]), PW.at hEx E hP hS⟩ rfl hna hl rfl (lv_room hcat) hdg ⟨Nat.zero_le _, Nat.zero_le _⟩) hS (fun q _ h => h) (fun q h => h) (fun r u t H1 locs1 ht hvm hw hB hz1 hk1 hS1 => ?_)
  obtain ⟨rfl, hnr⟩ := hw
  rw [ht] at hB
  exact kk H1 locs1 hB hS1 hnr
theorem x_callVv {y : MethodName} {b' : ByteArray} {n' : Nat} {rm : Room} {As : List Value} {M' : Mem} {k ci idx na : Nat} {fs : (Nat → Int32) → List Value} {C : String} {q : u_T × Nat} {st : List Value}
    (E : EV G tys Ex N ad p s m args meth c own b n ret) (hEx : ExOK Ex N ad) (hl : ls.size = n) (hP : va_P G vwCl (WW N sh ad M) H) (hS : va_S (AW N ad) s.heap H locs)
    (hC : CV G tys Ex N sh ad y b' n' rm (.ref (ad k) :: As) M M') (hG : GoodIn TB (wsV own idx C y (.code y b' n' none :: TB)))
    (hd : y.cls = C ∧ y.cls ≠ "java/lang/invoke/MethodHandle" ∧ y.cls ≠ "java/lang/invoke/VarHandle" ∧ (parseMethodDescriptor y.desc).map (fun d => d.parameters.length) = some na) (hna : As.length = na)
    (hk : k < N) (hs : ∀ row, sh k row = .inr (ci, fs row)) (hc : vwCl[ci]? = some (C, q)) (hR : rm.frames + 1 ≤ R.frames ∧ 8 + (n' + 11) + rm.locals ≤ R.locals) (hz : rm.cells = 0 ∧ rm.slots = 0)
    (hdg : decode b pc = .ok (.invokevirtual idx, 3)) (hst : st = As.reverse ++ .ref (ad k) :: rest) (hcat : (rest.map fun v => v.category).sum ≤ 8)
    (kk : ∀ H1 locs1, va_P G vwCl (WW N sh ad M') H1 → va_S (AW N ad) s.heap H1 locs1 → W p l e R s m args below meth c H1 locs1 0 0 Q (F0 m (pc + 3) ls rest)) :
    W p l e R s m args below meth c H locs 0 0 Q (F0 m pc ls st) := by
  subst hst
  refine va_callv (va_runV (As := As) (rest := rest) ⟨E.1, E.2.1, E.2.2.1, E.2.2.2.2.2.1, E.2.2.2.2.2.2.1⟩ (hC l) (cwV na E.2.2.2.2.2.2.1 hG rfl hz.1 hz.2 hd hR) ⟨PW.blind hEx, va_recv E.2.2.2.2.2.2.2.1 hP (ci := ci) (q0 := k) hc (by rw [WW_get hk, hs]), PW.at hEx E hP hS⟩ rfl hna hl rfl (lv_room hcat) hdg ⟨Nat.zero_le _, Nat.zero_le _⟩) hS (fun q _ h => h) (fun q h => h) (fun u t H1 locs1 ht hvm hw hB hz1 hk1 hS1 => ?_)
  rw [ht] at hB
  exact kk H1 locs1 hB hS1
theorem x_callSi {y : MethodName} {b' : ByteArray} {n' : Nat} {ty : FieldType} {rm : Room} {As : List Value} {v : Int32} {M' : Mem} {idx na : Nat} {st : List Value}
    (E : EV G tys Ex N ad p s m args meth c own b n ret) (hEx : ExOK Ex N ad) (hl : ls.size = n) (hP : va_P G vwCl (WW N sh ad M) H) (hS : va_S (AW N ad) s.heap H locs)
    (hC : CI G tys Ex N sh ad y b' n' ty rm As M v M') (hG : GoodIn TB (va_wsS own idx y (.code y b' n' (some ty) :: TB)))
    (hd : y.cls ≠ "java/lang/invoke/MethodHandle" ∧ y.cls ≠ "java/lang/invoke/VarHandle" ∧ (parseMethodDescriptor y.desc).map (fun d => d.parameters.length) = some na) (hna : As.length = na)
    (hR : rm.frames + 1 ≤ R.frames ∧ 8 + (n' + 11) + rm.locals ≤ R.locals) (hz : rm.cells = 0 ∧ rm.slots = 0)
    (hdg : decode b pc = .ok (.invokestatic idx, 3)) (hst : st = As.reverse ++ rest) (hcat : (rest.map fun v => v.category).sum ≤ 8)
    (kk : ∀ H1 locs1, va_P G vwCl (WW N sh ad M') H1 → va_S (AW N ad) s.heap H1 locs1 → narrow ty (.int v) = .int v → W p l e R s m args below meth c H1 locs1 0 0 Q (F0 m (pc + 3) ls (.int v :: rest))) :
    W p l e R s m args below meth c H locs 0 0 Q (F0 m pc ls st) := by
  subst hst
  refine va_calli (va_runS (As := As) (rest := rest) ⟨E.1, E.2.1, E.2.2.1, E.2.2.2.2.2.1, E.2.2.2.2.2.2.1⟩ (hC l) (va_cwS na E.2.2.2.2.2.2.1 hG rfl hz.1 hz.2 hd hR) ⟨PW.blind hEx, PW.at hEx E hP hS⟩ rfl hna hl rfl (lv_room hcat) hdg ⟨Nat.zero_le _, Nat.zero_le _⟩) hS (fun q _ h => h) (fun q h => h) (fun r u t H1 locs1 ht hvm hw hB hz1 hk1 hS1 => ?_)
  obtain ⟨rfl, hnr⟩ := hw
  rw [ht] at hB
  exact kk H1 locs1 hB hS1 hnr
theorem x_callSv {y : MethodName} {b' : ByteArray} {n' : Nat} {rm : Room} {As : List Value} {M' : Mem} {idx na : Nat} {st : List Value}
    (E : EV G tys Ex N ad p s m args meth c own b n ret) (hEx : ExOK Ex N ad) (hl : ls.size = n) (hP : va_P G vwCl (WW N sh ad M) H) (hS : va_S (AW N ad) s.heap H locs)
    (hC : CV G tys Ex N sh ad y b' n' rm As M M') (hG : GoodIn TB (va_wsS own idx y (.code y b' n' none :: TB)))
    (hd : y.cls ≠ "java/lang/invoke/MethodHandle" ∧ y.cls ≠ "java/lang/invoke/VarHandle" ∧ (parseMethodDescriptor y.desc).map (fun d => d.parameters.length) = some na) (hna : As.length = na)
    (hR : rm.frames + 1 ≤ R.frames ∧ 8 + (n' + 11) + rm.locals ≤ R.locals) (hz : rm.cells = 0 ∧ rm.slots = 0)
    (hdg : decode b pc = .ok (.invokestatic idx, 3)) (hst : st = As.reverse ++ rest) (hcat : (rest.map fun v => v.category).sum ≤ 8)
    (kk : ∀ H1 locs1, va_P G vwCl (WW N sh ad M') H1 → va_S (AW N ad) s.heap H1 locs1 → W p l e R s m args below meth c H1 locs1 0 0 Q (F0 m (pc + 3) ls rest)) :
    W p l e R s m args below meth c H locs 0 0 Q (F0 m pc ls st) := by
  subst hst
  refine va_callv (va_runS (As := As) (rest := rest) ⟨E.1, E.2.1, E.2.2.1, E.2.2.2.2.2.1, E.2.2.2.2.2.2.1⟩ (hC l) (va_cwS na E.2.2.2.2.2.2.1 hG rfl hz.1 hz.2 hd hR) ⟨PW.blind hEx, PW.at hEx E hP hS⟩ rfl hna hl rfl (lv_room hcat) hdg ⟨Nat.zero_le _, Nat.zero_le _⟩) hS (fun q _ h => h) (fun q h => h) (fun u t H1 locs1 ht hvm hw hB hz1 hk1 hS1 => ?_)
  rw [ht] at hB
  exact kk H1 locs1 hB hS1
/-- a nest mate's private static method -/
theorem x_callNi {y : MethodName} {b' : ByteArray} {n' : Nat} {ty : FieldType} {rm : Room} {As : List Value} {v : Int32} {M' : Mem} {idx na : Nat} {host : String} {st : List Value}
    (E : EV G tys Ex N ad p s m args meth c own b n ret) (hEx : ExOK Ex N ad) (hl : ls.size = n) (hP : va_P G vwCl (WW N sh ad M) H) (hS : va_S (AW N ad) s.heap H locs)
    (hC : CI G tys Ex N sh ad y b' n' ty rm As M v M') (hG : GoodIn TB (.code y b' n' (some ty) :: TB)) (hw : va_Nw (.methodLinkNest own idx y host) s) (hini : Cond.initialized y.cls ∈ TB) (hst0 : Cond.static y ∈ TB)
    (hd : y.cls ≠ "java/lang/invoke/MethodHandle" ∧ y.cls ≠ "java/lang/invoke/VarHandle" ∧ (parseMethodDescriptor y.desc).map (fun d => d.parameters.length) = some na) (hna : As.length = na)
    (hR : rm.frames + 1 ≤ R.frames ∧ 8 + (n' + 11) + rm.locals ≤ R.locals) (hz : rm.cells = 0 ∧ rm.slots = 0)
    (hdg : decode b pc = .ok (.invokestatic idx, 3)) (hst : st = As.reverse ++ rest) (hcat : (rest.map fun v => v.category).sum ≤ 8)
    (kk : ∀ H1 locs1, va_P G vwCl (WW N sh ad M') H1 → va_S (AW N ad) s.heap H1 locs1 → narrow ty (.int v) = .int v → W p l e R s m args below meth c H1 locs1 0 0 Q (F0 m (pc + 3) ls (.int v :: rest))) :
    W p l e R s m args below meth c H locs 0 0 Q (F0 m pc ls st) := by
  subst hst
  refine va_calli (va_runSN (As := As) (rest := rest) ⟨E.1, E.2.1, E.2.2.1, E.2.2.2.2.2.1, E.2.2.2.2.2.2.1⟩ (hC l) ⟨va_cnB na E.2.2.2.2.2.2.1 hG rfl hz.1 hz.2 hw (E.2.2.2.2.2.2.1 _ hini) hd hR, E.2.2.2.2.2.2.1 _ hst0, trivial⟩ ⟨PW.blind hEx, PW.at hEx E hP hS⟩ rfl hna hl rfl (lv_room hcat) hdg ⟨Nat.zero_le _, Nat.zero_le _⟩) hS (fun q _ h => h) (fun q h => h) (fun r u t H1 locs1 ht hvm hw hB hz1 hk1 hS1 => ?_)
  obtain ⟨rfl, hnr⟩ := hw
  rw [ht] at hB
  exact kk H1 locs1 hB hS1 hnr
theorem x_callNv {y : MethodName} {b' : ByteArray} {n' : Nat} {rm : Room} {As : List Value} {M' : Mem} {idx na : Nat} {host : String} {st : List Value}
    (E : EV G tys Ex N ad p s m args meth c own b n ret) (hEx : ExOK Ex N ad) (hl : ls.size = n) (hP : va_P G vwCl (WW N sh ad M) H) (hS : va_S (AW N ad) s.heap H locs)
    (hC : CV G tys Ex N sh ad y b' n' rm As M M') (hG : GoodIn TB (.code y b' n' none :: TB)) (hw : va_Nw (.methodLinkNest own idx y host) s) (hini : Cond.initialized y.cls ∈ TB) (hst0 : Cond.static y ∈ TB)
    (hd : y.cls ≠ "java/lang/invoke/MethodHandle" ∧ y.cls ≠ "java/lang/invoke/VarHandle" ∧ (parseMethodDescriptor y.desc).map (fun d => d.parameters.length) = some na) (hna : As.length = na)
    (hR : rm.frames + 1 ≤ R.frames ∧ 8 + (n' + 11) + rm.locals ≤ R.locals) (hz : rm.cells = 0 ∧ rm.slots = 0)
    (hdg : decode b pc = .ok (.invokestatic idx, 3)) (hst : st = As.reverse ++ rest) (hcat : (rest.map fun v => v.category).sum ≤ 8)
    (kk : ∀ H1 locs1, va_P G vwCl (WW N sh ad M') H1 → va_S (AW N ad) s.heap H1 locs1 → W p l e R s m args below meth c H1 locs1 0 0 Q (F0 m (pc + 3) ls rest)) :
    W p l e R s m args below meth c H locs 0 0 Q (F0 m pc ls st) := by
  subst hst
  refine va_callv (va_runSN (As := As) (rest := rest) ⟨E.1, E.2.1, E.2.2.1, E.2.2.2.2.2.1, E.2.2.2.2.2.2.1⟩ (hC l) ⟨va_cnB na E.2.2.2.2.2.2.1 hG rfl hz.1 hz.2 hw (E.2.2.2.2.2.2.1 _ hini) hd hR, E.2.2.2.2.2.2.1 _ hst0, trivial⟩ ⟨PW.blind hEx, PW.at hEx E hP hS⟩ rfl hna hl rfl (lv_room hcat) hdg ⟨Nat.zero_le _, Nat.zero_le _⟩) hS (fun q _ h => h) (fun q h => h) (fun u t H1 locs1 ht hvm hw hB hz1 hk1 hS1 => ?_)
  rw [ht] at hB
  exact kk H1 locs1 hB hS1
end XR
