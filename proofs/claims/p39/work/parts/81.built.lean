/-! the constructors that make rows alone -/
def zM : Mem := fun _ _ => 0
def roM : Mem := fun k => match k with
  | 0 => fun i => if i = 0 then 1 else 0
  | 4 => upd (fun _ => 0) 0 1
  | _ => fun _ => 0
def shB (cA : ClassId) (ad : Nat → Nat) (k : Nat) (row : Nat → Int32) : va_E := match k with
  | 0 => .inr (0, [.ref (ad 1), .int (row 1), .int (row 2), .int (row 3), .int (row 4), .int (row 5), .int (row 6)])
  | _ => .inl (cA, 20, .inl row)
def shG (_ : Nat → Nat) (_ : Nat) (row : Nat → Int32) : va_E := .inr (1, [.int (bz (row 0)), .int (row 1), .int (row 2), .int (row 3), .int (row 4), .int (row 5), .int (row 6)])
def shL (cA : ClassId) (ad : Nat → Nat) (k : Nat) (row : Nat → Int32) : va_E := match k with
  | 0 => .inr (2, [.int (row 0), .ref (ad 1)])
  | _ => .inl (cA, 2048, .inl row)
def shQ (cA : ClassId) (ad : Nat → Nat) (k : Nat) (row : Nat → Int32) : va_E := match k with
  | 0 => .inr (3, [.int (row 0), .ref (ad 1), .ref (ad 2)])
  | _ => .inl (cA, 8, .inl row)
def shE (cA : ClassId) (ad : Nat → Nat) (k : Nat) (row : Nat → Int32) : va_E := match k with
  | 0 => .inr (4, [.int (row 0), .ref (ad 1)])
  | _ => .inl (cA, 210, .inl row)
section CN
variable {G : va_G} {cA cZ cC : ClassId}
set_option maxHeartbeats 4000000 in
set_option maxRecDepth 20000 in
theorem i_X0 : MkC G (TY cA cZ cC) yX0_init cX0_init 1 ({ frames := 1, cells := 1, slots := 20, locals := 12 } : Room) 0 [.null, .int 0, .int 0, .int 0, .int 0, .int 0, .int 0] 2 (shB cA) zM 1 20 := by
  refine MkC.mk (own := RX0) (by decide +kernel) rfl rfl (Nat.le_refl _) ?_
  intro p l e s m args below meth c ls h0 E hin hP hD hA hl
  have hx := E.1
  have hb := E.2.1
  have hS : va_S (A1 h0 s.heap.size) s.heap s.heap [] := va_S.rf
  refine lv_aload_n (pc := 0) hx hb dX0_init_0 rfl (lv_at hl 0 rfl) ?_
  refine x_obj (pc := 1) E hl.1 q44 ⟨Nat.le_of_ble_eq_true rfl, Nat.le_of_ble_eq_true rfl⟩ dX0_init_1 ?_
  refine lv_aload_n (pc := 4) hx hb dX0_init_4 rfl (lv_at hl 0 rfl) ?_
  refine lv_bipush (v := 20) (pc := 5) hx hb dX0_init_5 (by decide) ?_
  refine x_newr (pc := 7) (atype := .int) (ty := .int) (cA := cA) (N' := 20) E hP hD hS hA 0 rfl rfl (fun _ _ h => h) rfl q72 (by decide) (by decide) (Nat.le_of_ble_eq_true rfl) (Nat.le_of_ble_eq_true rfl) (Nat.le_of_ble_eq_true rfl) dX0_init_7 (fun u7 H hP hD hS => ?_)
  refine W.widen (k := 1) (n := 20) (Nat.le_of_ble_eq_true rfl) (Nat.le_of_ble_eq_true rfl) ?_
  have hP : va_P G vwCl [(h0, .inr (0, [.null, .int 0, .int 0, .int 0, .int 0, .int 0, .int 0])), (u7, .inl (cA, 20, .inl fun _ => 0))] H := hP
  have hD : va_D (A1 h0 s.heap.size) [(h0, .inr (0, [.null, .int 0, .int 0, .int 0, .int 0, .int 0, .int 0])), (u7, .inl (cA, 20, .inl fun _ => 0))] := hD
  refine x_putQ (pc := 9) (ci := 0) (q := u7) (C := RX0) (T := TX0) (NN := 7) E hin hP hD hS tyX0 tyX0_ok nmX0 rfl inX0 0 (by decide) q45 rfl rfl rfl rfl (Nat.le_of_ble_eq_true rfl) dX0_init_9 (fun H locs hP hD hS => ?_)
  have hP : va_P G vwCl [(h0, .inr (0, [.ref u7, .int 0, .int 0, .int 0, .int 0, .int 0, .int 0])), (u7, .inl (cA, 20, .inl fun _ => 0))] H := hP
  have hD : va_D (A1 h0 s.heap.size) [(h0, .inr (0, [.ref u7, .int 0, .int 0, .int 0, .int 0, .int 0, .int 0])), (u7, .inl (cA, 20, .inl fun _ => 0))] := hD
  exact x_mret (pc := 12) E (fun k => [h0, u7].getD k 0) rfl hP hD hS dX0_init_12
set_option maxHeartbeats 4000000 in
set_option maxRecDepth 20000 in
theorem i_X1 : MkC G (TY cA cZ cC) yX1_init cX1_init 1 ({ frames := 1, cells := 0, slots := 0, locals := 12 } : Room) 1 [.int (bz 0), .int 0, .int 0, .int 0, .int 0, .int 0, .int 0] 1 (shG) zM 0 0 := by
  refine MkC.mk (own := RX1) (by decide +kernel) rfl rfl (Nat.le_refl _) ?_
  intro p l e s m args below meth c ls h0 E hin hP hD hA hl
  have hx := E.1
  have hb := E.2.1
  have hS : va_S (A1 h0 s.heap.size) s.heap s.heap [] := va_S.rf
  refine lv_aload_n (pc := 0) hx hb dX1_init_0 rfl (lv_at hl 0 rfl) ?_
  refine x_obj (pc := 1) E hl.1 q182 ⟨Nat.le_of_ble_eq_true rfl, Nat.le_of_ble_eq_true rfl⟩ dX1_init_1 ?_
  exact x_mret (pc := 4) E (fun k => [h0].getD k 0) rfl hP hD hS dX1_init_4
set_option maxHeartbeats 4000000 in
set_option maxRecDepth 20000 in
theorem i_X2 : MkC G (TY cA cZ cC) yX2_init cX2_init 1 ({ frames := 1, cells := 1, slots := 2048, locals := 12 } : Room) 2 [.int 0, .null] 2 (shL cA) zM 1 2048 := by
  refine MkC.mk (own := RX2) (by decide +kernel) rfl rfl (Nat.le_refl _) ?_
  intro p l e s m args below meth c ls h0 E hin hP hD hA hl
  have hx := E.1
  have hb := E.2.1
  have hS : va_S (A1 h0 s.heap.size) s.heap s.heap [] := va_S.rf
  refine lv_aload_n (pc := 0) hx hb dX2_init_0 rfl (lv_at hl 0 rfl) ?_
  refine x_obj (pc := 1) E hl.1 q242 ⟨Nat.le_of_ble_eq_true rfl, Nat.le_of_ble_eq_true rfl⟩ dX2_init_1 ?_
  refine lv_aload_n (pc := 4) hx hb dX2_init_4 rfl (lv_at hl 0 rfl) ?_
  refine lv_sipush (v := 2048) (pc := 5) hx hb dX2_init_5 (by decide) ?_
  refine x_newr (pc := 8) (atype := .int) (ty := .int) (cA := cA) (N' := 2048) E hP hD hS hA 0 rfl rfl (fun _ _ h => h) rfl q72 (by decide) (by decide) (Nat.le_of_ble_eq_true rfl) (Nat.le_of_ble_eq_true rfl) (Nat.le_of_ble_eq_true rfl) dX2_init_8 (fun u8 H hP hD hS => ?_)
  refine W.widen (k := 1) (n := 2048) (Nat.le_of_ble_eq_true rfl) (Nat.le_of_ble_eq_true rfl) ?_
  have hP : va_P G vwCl [(h0, .inr (2, [.int 0, .null])), (u8, .inl (cA, 2048, .inl fun _ => 0))] H := hP
  have hD : va_D (A1 h0 s.heap.size) [(h0, .inr (2, [.int 0, .null])), (u8, .inl (cA, 2048, .inl fun _ => 0))] := hD
  refine x_putQ (pc := 10) (ci := 2) (q := u8) (C := RX2) (T := TX2) (NN := 2) E hin hP hD hS tyX2 tyX2_ok nmX2 rfl inX2 1 (by decide) q246 rfl rfl rfl rfl (Nat.le_of_ble_eq_true rfl) dX2_init_10 (fun H locs hP hD hS => ?_)
  have hP : va_P G vwCl [(h0, .inr (2, [.int 0, .ref u8])), (u8, .inl (cA, 2048, .inl fun _ => 0))] H := hP
  have hD : va_D (A1 h0 s.heap.size) [(h0, .inr (2, [.int 0, .ref u8])), (u8, .inl (cA, 2048, .inl fun _ => 0))] := hD
  exact x_mret (pc := 13) E (fun k => [h0, u8].getD k 0) rfl hP hD hS dX2_init_13
set_option maxHeartbeats 4000000 in
set_option maxRecDepth 20000 in
theorem i_X3 : MkC G (TY cA cZ cC) yX3_init cX3_init 1 ({ frames := 1, cells := 2, slots := 16, locals := 12 } : Room) 3 [.int 0, .null, .null] 3 (shQ cA) zM 2 16 := by
  refine MkC.mk (own := RX3) (by decide +kernel) rfl rfl (Nat.le_refl _) ?_
  intro p l e s m args below meth c ls h0 E hin hP hD hA hl
  have hx := E.1
  have hb := E.2.1
  have hS : va_S (A1 h0 s.heap.size) s.heap s.heap [] := va_S.rf
  refine lv_aload_n (pc := 0) hx hb dX3_init_0 rfl (lv_at hl 0 rfl) ?_
  refine x_obj (pc := 1) E hl.1 q161 ⟨Nat.le_of_ble_eq_true rfl, Nat.le_of_ble_eq_true rfl⟩ dX3_init_1 ?_
  refine lv_aload_n (pc := 4) hx hb dX3_init_4 rfl (lv_at hl 0 rfl) ?_
  refine lv_bipush (v := 8) (pc := 5) hx hb dX3_init_5 (by decide) ?_
  refine x_newr (pc := 7) (atype := .int) (ty := .int) (cA := cA) (N' := 8) E hP hD hS hA 0 rfl rfl (fun _ _ h => h) rfl q72 (by decide) (by decide) (Nat.le_of_ble_eq_true rfl) (Nat.le_of_ble_eq_true rfl) (Nat.le_of_ble_eq_true rfl) dX3_init_7 (fun u7 H hP hD hS => ?_)
  refine W.widen (k := 1) (n := 8) (Nat.le_of_ble_eq_true rfl) (Nat.le_of_ble_eq_true rfl) ?_
  have hP : va_P G vwCl [(h0, .inr (3, [.int 0, .null, .null])), (u7, .inl (cA, 8, .inl fun _ => 0))] H := hP
  have hD : va_D (A1 h0 s.heap.size) [(h0, .inr (3, [.int 0, .null, .null])), (u7, .inl (cA, 8, .inl fun _ => 0))] := hD
  refine x_putQ (pc := 9) (ci := 3) (q := u7) (C := RX3) (T := TX3) (NN := 3) E hin hP hD hS tyX3 tyX3_ok nmX3 rfl inX3 1 (by decide) q164 rfl rfl rfl rfl (Nat.le_of_ble_eq_true rfl) dX3_init_9 (fun H locs hP hD hS => ?_)
  have hP : va_P G vwCl [(h0, .inr (3, [.int 0, .ref u7, .null])), (u7, .inl (cA, 8, .inl fun _ => 0))] H := hP
  have hD : va_D (A1 h0 s.heap.size) [(h0, .inr (3, [.int 0, .ref u7, .null])), (u7, .inl (cA, 8, .inl fun _ => 0))] := hD
  refine lv_aload_n (pc := 12) hx hb dX3_init_12 rfl (lv_at hl 0 rfl) ?_
  refine lv_bipush (v := 8) (pc := 13) hx hb dX3_init_13 (by decide) ?_
  refine x_newr (pc := 15) (atype := .int) (ty := .int) (cA := cA) (N' := 8) E hP hD hS hA 0 rfl rfl (fun _ _ h => h) rfl q72 (by decide) (by decide) (Nat.le_of_ble_eq_true rfl) (Nat.le_of_ble_eq_true rfl) (Nat.le_of_ble_eq_true rfl) dX3_init_15 (fun u15 H hP hD hS => ?_)
  refine W.widen (k := 2) (n := 16) (Nat.le_of_ble_eq_true rfl) (Nat.le_of_ble_eq_true rfl) ?_
  have hP : va_P G vwCl [(h0, .inr (3, [.int 0, .ref u7, .null])), (u7, .inl (cA, 8, .inl fun _ => 0)), (u15, .inl (cA, 8, .inl fun _ => 0))] H := hP
  have hD : va_D (A1 h0 s.heap.size) [(h0, .inr (3, [.int 0, .ref u7, .null])), (u7, .inl (cA, 8, .inl fun _ => 0)), (u15, .inl (cA, 8, .inl fun _ => 0))] := hD
  refine x_putQ (pc := 17) (ci := 3) (q := u15) (C := RX3) (T := TX3) (NN := 3) E hin hP hD hS tyX3 tyX3_ok nmX3 rfl inX3 2 (by decide) q167 rfl rfl rfl rfl (Nat.le_of_ble_eq_true rfl) dX3_init_17 (fun H locs hP hD hS => ?_)
  have hP : va_P G vwCl [(h0, .inr (3, [.int 0, .ref u7, .ref u15])), (u7, .inl (cA, 8, .inl fun _ => 0)), (u15, .inl (cA, 8, .inl fun _ => 0))] H := hP
  have hD : va_D (A1 h0 s.heap.size) [(h0, .inr (3, [.int 0, .ref u7, .ref u15])), (u7, .inl (cA, 8, .inl fun _ => 0)), (u15, .inl (cA, 8, .inl fun _ => 0))] := hD
  exact x_mret (pc := 20) E (fun k => [h0, u7, u15].getD k 0) rfl hP hD hS dX3_init_20
set_option maxHeartbeats 4000000 in
set_option maxRecDepth 20000 in
theorem i_X4 : MkC G (TY cA cZ cC) yX4_init cX4_init 1 ({ frames := 1, cells := 1, slots := 210, locals := 12 } : Room) 4 [.int 0, .null] 2 (shE cA) zM 1 210 := by
  refine MkC.mk (own := RX4) (by decide +kernel) rfl rfl (Nat.le_refl _) ?_
  intro p l e s m args below meth c ls h0 E hin hP hD hA hl
  have hx := E.1
  have hb := E.2.1
  have hS : va_S (A1 h0 s.heap.size) s.heap s.heap [] := va_S.rf
  refine lv_aload_n (pc := 0) hx hb dX4_init_0 rfl (lv_at hl 0 rfl) ?_
  refine x_obj (pc := 1) E hl.1 q227 ⟨Nat.le_of_ble_eq_true rfl, Nat.le_of_ble_eq_true rfl⟩ dX4_init_1 ?_
  refine lv_aload_n (pc := 4) hx hb dX4_init_4 rfl (lv_at hl 0 rfl) ?_
  refine lv_sipush (v := 210) (pc := 5) hx hb dX4_init_5 (by decide) ?_
  refine x_newr (pc := 8) (atype := .int) (ty := .int) (cA := cA) (N' := 210) E hP hD hS hA 0 rfl rfl (fun _ _ h => h) rfl q72 (by decide) (by decide) (Nat.le_of_ble_eq_true rfl) (Nat.le_of_ble_eq_true rfl) (Nat.le_of_ble_eq_true rfl) dX4_init_8 (fun u8 H hP hD hS => ?_)
  refine W.widen (k := 1) (n := 210) (Nat.le_of_ble_eq_true rfl) (Nat.le_of_ble_eq_true rfl) ?_
  have hP : va_P G vwCl [(h0, .inr (4, [.int 0, .null])), (u8, .inl (cA, 210, .inl fun _ => 0))] H := hP
  have hD : va_D (A1 h0 s.heap.size) [(h0, .inr (4, [.int 0, .null])), (u8, .inl (cA, 210, .inl fun _ => 0))] := hD
  refine x_putQ (pc := 10) (ci := 4) (q := u8) (C := RX4) (T := TX4) (NN := 2) E hin hP hD hS tyX4 tyX4_ok nmX4 rfl inX4 1 (by decide) q230 rfl rfl rfl rfl (Nat.le_of_ble_eq_true rfl) dX4_init_10 (fun H locs hP hD hS => ?_)
  have hP : va_P G vwCl [(h0, .inr (4, [.int 0, .ref u8])), (u8, .inl (cA, 210, .inl fun _ => 0))] H := hP
  have hD : va_D (A1 h0 s.heap.size) [(h0, .inr (4, [.int 0, .ref u8])), (u8, .inl (cA, 210, .inl fun _ => 0))] := hD
  exact x_mret (pc := 13) E (fun k => [h0, u8].getD k 0) rfl hP hD hS dX4_init_13
set_option maxHeartbeats 4000000 in
set_option maxRecDepth 20000 in
theorem i_X5 : MkC G (TY cA cZ cC) yX5_init cX5_init 1 ({ frames := 1, cells := 11, slots := 156, locals := 22 } : Room) 5 [.int 0, .null, .null, .null, .null, .null, .int 0, .null, .null, .int 0, .null, .null, .null, .null, .int 0, .int 0] 12 (fun ad => cellRoom cA ad 0) roM 11 156 := by
  refine MkC.mk (own := RX5) (by decide +kernel) rfl rfl (Nat.le_refl _) ?_
  intro p l e s m args below meth c ls h0 E hin hP hD hA hl
  have hx := E.1
  have hb := E.2.1
  have hS : va_S (A1 h0 s.heap.size) s.heap s.heap [] := va_S.rf
  refine lv_aload_n (pc := 0) hx hb dX5_init_0 rfl (lv_at hl 0 rfl) ?_
  refine x_obj (pc := 1) E hl.1 q84 ⟨Nat.le_of_ble_eq_true rfl, Nat.le_of_ble_eq_true rfl⟩ dX5_init_1 ?_
  refine lv_aload_n (pc := 4) hx hb dX5_init_4 rfl (lv_at hl 0 rfl) ?_
  refine lv_bipush (v := 12) (pc := 5) hx hb dX5_init_5 (by decide) ?_
  refine x_newr (pc := 7) (atype := .int) (ty := .int) (cA := cA) (N' := 12) E hP hD hS hA 0 rfl rfl (fun _ _ h => h) rfl q72 (by decide) (by decide) (Nat.le_of_ble_eq_true rfl) (Nat.le_of_ble_eq_true rfl) (Nat.le_of_ble_eq_true rfl) dX5_init_7 (fun u7 H hP hD hS => ?_)
  refine W.widen (k := 1) (n := 12) (Nat.le_of_ble_eq_true rfl) (Nat.le_of_ble_eq_true rfl) ?_
  have hP : va_P G vwCl [(h0, .inr (5, [.int 0, .null, .null, .null, .null, .null, .int 0, .null, .null, .int 0, .null, .null, .null, .null, .int 0, .int 0])), (u7, .inl (cA, 12, .inl fun _ => 0))] H := hP
  have hD : va_D (A1 h0 s.heap.size) [(h0, .inr (5, [.int 0, .null, .null, .null, .null, .null, .int 0, .null, .null, .int 0, .null, .null, .null, .null, .int 0, .int 0])), (u7, .inl (cA, 12, .inl fun _ => 0))] := hD
  refine x_putQ (pc := 9) (ci := 5) (q := u7) (C := RX5) (T := TX5) (NN := 16) E hin hP hD hS tyX5 tyX5_ok nmX5 rfl inX5 1 (by decide) q90 rfl rfl rfl rfl (Nat.le_of_ble_eq_true rfl) dX5_init_9 (fun H locs hP hD hS => ?_)
  have hP : va_P G vwCl [(h0, .inr (5, [.int 0, .ref u7, .null, .null, .null, .null, .int 0, .null, .null, .int 0, .null, .null, .null, .null, .int 0, .int 0])), (u7, .inl (cA, 12, .inl fun _ => 0))] H := hP
  have hD : va_D (A1 h0 s.heap.size) [(h0, .inr (5, [.int 0, .ref u7, .null, .null, .null, .null, .int 0, .null, .null, .int 0, .null, .null, .null, .null, .int 0, .int 0])), (u7, .inl (cA, 12, .inl fun _ => 0))] := hD
  refine lv_aload_n (pc := 12) hx hb dX5_init_12 rfl (lv_at hl 0 rfl) ?_
  refine lv_bipush (v := 12) (pc := 13) hx hb dX5_init_13 (by decide) ?_
  refine x_newr (pc := 15) (atype := .int) (ty := .int) (cA := cA) (N' := 12) E hP hD hS hA 0 rfl rfl (fun _ _ h => h) rfl q72 (by decide) (by decide) (Nat.le_of_ble_eq_true rfl) (Nat.le_of_ble_eq_true rfl) (Nat.le_of_ble_eq_true rfl) dX5_init_15 (fun u15 H hP hD hS => ?_)
  refine W.widen (k := 2) (n := 24) (Nat.le_of_ble_eq_true rfl) (Nat.le_of_ble_eq_true rfl) ?_
  have hP : va_P G vwCl [(h0, .inr (5, [.int 0, .ref u7, .null, .null, .null, .null, .int 0, .null, .null, .int 0, .null, .null, .null, .null, .int 0, .int 0])), (u7, .inl (cA, 12, .inl fun _ => 0)), (u15, .inl (cA, 12, .inl fun _ => 0))] H := hP
  have hD : va_D (A1 h0 s.heap.size) [(h0, .inr (5, [.int 0, .ref u7, .null, .null, .null, .null, .int 0, .null, .null, .int 0, .null, .null, .null, .null, .int 0, .int 0])), (u7, .inl (cA, 12, .inl fun _ => 0)), (u15, .inl (cA, 12, .inl fun _ => 0))] := hD
  refine x_putQ (pc := 17) (ci := 5) (q := u15) (C := RX5) (T := TX5) (NN := 16) E hin hP hD hS tyX5 tyX5_ok nmX5 rfl inX5 2 (by decide) q92 rfl rfl rfl rfl (Nat.le_of_ble_eq_true rfl) dX5_init_17 (fun H locs hP hD hS => ?_)
  have hP : va_P G vwCl [(h0, .inr (5, [.int 0, .ref u7, .ref u15, .null, .null, .null, .int 0, .null, .null, .int 0, .null, .null, .null, .null, .int 0, .int 0])), (u7, .inl (cA, 12, .inl fun _ => 0)), (u15, .inl (cA, 12, .inl fun _ => 0))] H := hP
  have hD : va_D (A1 h0 s.heap.size) [(h0, .inr (5, [.int 0, .ref u7, .ref u15, .null, .null, .null, .int 0, .null, .null, .int 0, .null, .null, .null, .null, .int 0, .int 0])), (u7, .inl (cA, 12, .inl fun _ => 0)), (u15, .inl (cA, 12, .inl fun _ => 0))] := hD
  refine lv_aload_n (pc := 20) hx hb dX5_init_20 rfl (lv_at hl 0 rfl) ?_
  refine lv_bipush (v := 12) (pc := 21) hx hb dX5_init_21 (by decide) ?_
  refine x_newr (pc := 23) (atype := .int) (ty := .int) (cA := cA) (N' := 12) E hP hD hS hA 0 rfl rfl (fun _ _ h => h) rfl q72 (by decide) (by decide) (Nat.le_of_ble_eq_true rfl) (Nat.le_of_ble_eq_true rfl) (Nat.le_of_ble_eq_true rfl) dX5_init_23 (fun u23 H hP hD hS => ?_)
  refine W.widen (k := 3) (n := 36) (Nat.le_of_ble_eq_true rfl) (Nat.le_of_ble_eq_true rfl) ?_
  have hP : va_P G vwCl [(h0, .inr (5, [.int 0, .ref u7, .ref u15, .null, .null, .null, .int 0, .null, .null, .int 0, .null, .null, .null, .null, .int 0, .int 0])), (u7, .inl (cA, 12, .inl fun _ => 0)), (u15, .inl (cA, 12, .inl fun _ => 0)), (u23, .inl (cA, 12, .inl fun _ => 0))] H := hP
  have hD : va_D (A1 h0 s.heap.size) [(h0, .inr (5, [.int 0, .ref u7, .ref u15, .null, .null, .null, .int 0, .null, .null, .int 0, .null, .null, .null, .null, .int 0, .int 0])), (u7, .inl (cA, 12, .inl fun _ => 0)), (u15, .inl (cA, 12, .inl fun _ => 0)), (u23, .inl (cA, 12, .inl fun _ => 0))] := hD
  refine x_putQ (pc := 25) (ci := 5) (q := u23) (C := RX5) (T := TX5) (NN := 16) E hin hP hD hS tyX5 tyX5_ok nmX5 rfl inX5 3 (by decide) q94 rfl rfl rfl rfl (Nat.le_of_ble_eq_true rfl) dX5_init_25 (fun H locs hP hD hS => ?_)
  have hP : va_P G vwCl [(h0, .inr (5, [.int 0, .ref u7, .ref u15, .ref u23, .null, .null, .int 0, .null, .null, .int 0, .null, .null, .null, .null, .int 0, .int 0])), (u7, .inl (cA, 12, .inl fun _ => 0)), (u15, .inl (cA, 12, .inl fun _ => 0)), (u23, .inl (cA, 12, .inl fun _ => 0))] H := hP
  have hD : va_D (A1 h0 s.heap.size) [(h0, .inr (5, [.int 0, .ref u7, .ref u15, .ref u23, .null, .null, .int 0, .null, .null, .int 0, .null, .null, .null, .null, .int 0, .int 0])), (u7, .inl (cA, 12, .inl fun _ => 0)), (u15, .inl (cA, 12, .inl fun _ => 0)), (u23, .inl (cA, 12, .inl fun _ => 0))] := hD
  refine lv_aload_n (pc := 28) hx hb dX5_init_28 rfl (lv_at hl 0 rfl) ?_
  refine lv_bipush (v := 12) (pc := 29) hx hb dX5_init_29 (by decide) ?_
  refine x_newr (pc := 31) (atype := .int) (ty := .int) (cA := cA) (N' := 12) E hP hD hS hA 0 rfl rfl (fun _ _ h => h) rfl q72 (by decide) (by decide) (Nat.le_of_ble_eq_true rfl) (Nat.le_of_ble_eq_true rfl) (Nat.le_of_ble_eq_true rfl) dX5_init_31 (fun u31 H hP hD hS => ?_)
  refine W.widen (k := 4) (n := 48) (Nat.le_of_ble_eq_true rfl) (Nat.le_of_ble_eq_true rfl) ?_
  have hP : va_P G vwCl [(h0, .inr (5, [.int 0, .ref u7, .ref u15, .ref u23, .null, .null, .int 0, .null, .null, .int 0, .null, .null, .null, .null, .int 0, .int 0])), (u7, .inl (cA, 12, .inl fun _ => 0)), (u15, .inl (cA, 12, .inl fun _ => 0)), (u23, .inl (cA, 12, .inl fun _ => 0)), (u31, .inl (cA, 12, .inl fun _ => 0))] H := hP
  have hD : va_D (A1 h0 s.heap.size) [(h0, .inr (5, [.int 0, .ref u7, .ref u15, .ref u23, .null, .null, .int 0, .null, .null, .int 0, .null, .null, .null, .null, .int 0, .int 0])), (u7, .inl (cA, 12, .inl fun _ => 0)), (u15, .inl (cA, 12, .inl fun _ => 0)), (u23, .inl (cA, 12, .inl fun _ => 0)), (u31, .inl (cA, 12, .inl fun _ => 0))] := hD
  refine x_putQ (pc := 33) (ci := 5) (q := u31) (C := RX5) (T := TX5) (NN := 16) E hin hP hD hS tyX5 tyX5_ok nmX5 rfl inX5 4 (by decide) q96 rfl rfl rfl rfl (Nat.le_of_ble_eq_true rfl) dX5_init_33 (fun H locs hP hD hS => ?_)
  have hP : va_P G vwCl [(h0, .inr (5, [.int 0, .ref u7, .ref u15, .ref u23, .ref u31, .null, .int 0, .null, .null, .int 0, .null, .null, .null, .null, .int 0, .int 0])), (u7, .inl (cA, 12, .inl fun _ => 0)), (u15, .inl (cA, 12, .inl fun _ => 0)), (u23, .inl (cA, 12, .inl fun _ => 0)), (u31, .inl (cA, 12, .inl fun _ => 0))] H := hP
  have hD : va_D (A1 h0 s.heap.size) [(h0, .inr (5, [.int 0, .ref u7, .ref u15, .ref u23, .ref u31, .null, .int 0, .null, .null, .int 0, .null, .null, .null, .null, .int 0, .int 0])), (u7, .inl (cA, 12, .inl fun _ => 0)), (u15, .inl (cA, 12, .inl fun _ => 0)), (u23, .inl (cA, 12, .inl fun _ => 0)), (u31, .inl (cA, 12, .inl fun _ => 0))] := hD
  refine lv_aload_n (pc := 36) hx hb dX5_init_36 rfl (lv_at hl 0 rfl) ?_
  refine lv_bipush (v := 12) (pc := 37) hx hb dX5_init_37 (by decide) ?_
  refine x_newr (pc := 39) (atype := .int) (ty := .int) (cA := cA) (N' := 12) E hP hD hS hA 0 rfl rfl (fun _ _ h => h) rfl q72 (by decide) (by decide) (Nat.le_of_ble_eq_true rfl) (Nat.le_of_ble_eq_true rfl) (Nat.le_of_ble_eq_true rfl) dX5_init_39 (fun u39 H hP hD hS => ?_)
  refine W.widen (k := 5) (n := 60) (Nat.le_of_ble_eq_true rfl) (Nat.le_of_ble_eq_true rfl) ?_
  have hP : va_P G vwCl [(h0, .inr (5, [.int 0, .ref u7, .ref u15, .ref u23, .ref u31, .null, .int 0, .null, .null, .int 0, .null, .null, .null, .null, .int 0, .int 0])), (u7, .inl (cA, 12, .inl fun _ => 0)), (u15, .inl (cA, 12, .inl fun _ => 0)), (u23, .inl (cA, 12, .inl fun _ => 0)), (u31, .inl (cA, 12, .inl fun _ => 0)), (u39, .inl (cA, 12, .inl fun _ => 0))] H := hP
  have hD : va_D (A1 h0 s.heap.size) [(h0, .inr (5, [.int 0, .ref u7, .ref u15, .ref u23, .ref u31, .null, .int 0, .null, .null, .int 0, .null, .null, .null, .null, .int 0, .int 0])), (u7, .inl (cA, 12, .inl fun _ => 0)), (u15, .inl (cA, 12, .inl fun _ => 0)), (u23, .inl (cA, 12, .inl fun _ => 0)), (u31, .inl (cA, 12, .inl fun _ => 0)), (u39, .inl (cA, 12, .inl fun _ => 0))] := hD
  refine x_putQ (pc := 41) (ci := 5) (q := u39) (C := RX5) (T := TX5) (NN := 16) E hin hP hD hS tyX5 tyX5_ok nmX5 rfl inX5 5 (by decide) q98 rfl rfl rfl rfl (Nat.le_of_ble_eq_true rfl) dX5_init_41 (fun H locs hP hD hS => ?_)
  have hP : va_P G vwCl [(h0, .inr (5, [.int 0, .ref u7, .ref u15, .ref u23, .ref u31, .ref u39, .int 0, .null, .null, .int 0, .null, .null, .null, .null, .int 0, .int 0])), (u7, .inl (cA, 12, .inl fun _ => 0)), (u15, .inl (cA, 12, .inl fun _ => 0)), (u23, .inl (cA, 12, .inl fun _ => 0)), (u31, .inl (cA, 12, .inl fun _ => 0)), (u39, .inl (cA, 12, .inl fun _ => 0))] H := hP
  have hD : va_D (A1 h0 s.heap.size) [(h0, .inr (5, [.int 0, .ref u7, .ref u15, .ref u23, .ref u31, .ref u39, .int 0, .null, .null, .int 0, .null, .null, .null, .null, .int 0, .int 0])), (u7, .inl (cA, 12, .inl fun _ => 0)), (u15, .inl (cA, 12, .inl fun _ => 0)), (u23, .inl (cA, 12, .inl fun _ => 0)), (u31, .inl (cA, 12, .inl fun _ => 0)), (u39, .inl (cA, 12, .inl fun _ => 0))] := hD
  refine lv_aload_n (pc := 44) hx hb dX5_init_44 rfl (lv_at hl 0 rfl) ?_
  refine lv_bipush (v := 24) (pc := 45) hx hb dX5_init_45 (by decide) ?_
  refine x_newr (pc := 47) (atype := .int) (ty := .int) (cA := cA) (N' := 24) E hP hD hS hA 0 rfl rfl (fun _ _ h => h) rfl q72 (by decide) (by decide) (Nat.le_of_ble_eq_true rfl) (Nat.le_of_ble_eq_true rfl) (Nat.le_of_ble_eq_true rfl) dX5_init_47 (fun u47 H hP hD hS => ?_)
  refine W.widen (k := 6) (n := 84) (Nat.le_of_ble_eq_true rfl) (Nat.le_of_ble_eq_true rfl) ?_
  have hP : va_P G vwCl [(h0, .inr (5, [.int 0, .ref u7, .ref u15, .ref u23, .ref u31, .ref u39, .int 0, .null, .null, .int 0, .null, .null, .null, .null, .int 0, .int 0])), (u7, .inl (cA, 12, .inl fun _ => 0)), (u15, .inl (cA, 12, .inl fun _ => 0)), (u23, .inl (cA, 12, .inl fun _ => 0)), (u31, .inl (cA, 12, .inl fun _ => 0)), (u39, .inl (cA, 12, .inl fun _ => 0)), (u47, .inl (cA, 24, .inl fun _ => 0))] H := hP
  have hD : va_D (A1 h0 s.heap.size) [(h0, .inr (5, [.int 0, .ref u7, .ref u15, .ref u23, .ref u31, .ref u39, .int 0, .null, .null, .int 0, .null, .null, .null, .null, .int 0, .int 0])), (u7, .inl (cA, 12, .inl fun _ => 0)), (u15, .inl (cA, 12, .inl fun _ => 0)), (u23, .inl (cA, 12, .inl fun _ => 0)), (u31, .inl (cA, 12, .inl fun _ => 0)), (u39, .inl (cA, 12, .inl fun _ => 0)), (u47, .inl (cA, 24, .inl fun _ => 0))] := hD
  refine x_putQ (pc := 49) (ci := 5) (q := u47) (C := RX5) (T := TX5) (NN := 16) E hin hP hD hS tyX5 tyX5_ok nmX5 rfl inX5 7 (by decide) q102 rfl rfl rfl rfl (Nat.le_of_ble_eq_true rfl) dX5_init_49 (fun H locs hP hD hS => ?_)
  have hP : va_P G vwCl [(h0, .inr (5, [.int 0, .ref u7, .ref u15, .ref u23, .ref u31, .ref u39, .int 0, .ref u47, .null, .int 0, .null, .null, .null, .null, .int 0, .int 0])), (u7, .inl (cA, 12, .inl fun _ => 0)), (u15, .inl (cA, 12, .inl fun _ => 0)), (u23, .inl (cA, 12, .inl fun _ => 0)), (u31, .inl (cA, 12, .inl fun _ => 0)), (u39, .inl (cA, 12, .inl fun _ => 0)), (u47, .inl (cA, 24, .inl fun _ => 0))] H := hP
  have hD : va_D (A1 h0 s.heap.size) [(h0, .inr (5, [.int 0, .ref u7, .ref u15, .ref u23, .ref u31, .ref u39, .int 0, .ref u47, .null, .int 0, .null, .null, .null, .null, .int 0, .int 0])), (u7, .inl (cA, 12, .inl fun _ => 0)), (u15, .inl (cA, 12, .inl fun _ => 0)), (u23, .inl (cA, 12, .inl fun _ => 0)), (u31, .inl (cA, 12, .inl fun _ => 0)), (u39, .inl (cA, 12, .inl fun _ => 0)), (u47, .inl (cA, 24, .inl fun _ => 0))] := hD
  refine lv_aload_n (pc := 52) hx hb dX5_init_52 rfl (lv_at hl 0 rfl) ?_
  refine lv_bipush (v := 24) (pc := 53) hx hb dX5_init_53 (by decide) ?_
  refine x_newr (pc := 55) (atype := .int) (ty := .int) (cA := cA) (N' := 24) E hP hD hS hA 0 rfl rfl (fun _ _ h => h) rfl q72 (by decide) (by decide) (Nat.le_of_ble_eq_true rfl) (Nat.le_of_ble_eq_true rfl) (Nat.le_of_ble_eq_true rfl) dX5_init_55 (fun u55 H hP hD hS => ?_)
  refine W.widen (k := 7) (n := 108) (Nat.le_of_ble_eq_true rfl) (Nat.le_of_ble_eq_true rfl) ?_
  have hP : va_P G vwCl [(h0, .inr (5, [.int 0, .ref u7, .ref u15, .ref u23, .ref u31, .ref u39, .int 0, .ref u47, .null, .int 0, .null, .null, .null, .null, .int 0, .int 0])), (u7, .inl (cA, 12, .inl fun _ => 0)), (u15, .inl (cA, 12, .inl fun _ => 0)), (u23, .inl (cA, 12, .inl fun _ => 0)), (u31, .inl (cA, 12, .inl fun _ => 0)), (u39, .inl (cA, 12, .inl fun _ => 0)), (u47, .inl (cA, 24, .inl fun _ => 0)), (u55, .inl (cA, 24, .inl fun _ => 0))] H := hP
  have hD : va_D (A1 h0 s.heap.size) [(h0, .inr (5, [.int 0, .ref u7, .ref u15, .ref u23, .ref u31, .ref u39, .int 0, .ref u47, .null, .int 0, .null, .null, .null, .null, .int 0, .int 0])), (u7, .inl (cA, 12, .inl fun _ => 0)), (u15, .inl (cA, 12, .inl fun _ => 0)), (u23, .inl (cA, 12, .inl fun _ => 0)), (u31, .inl (cA, 12, .inl fun _ => 0)), (u39, .inl (cA, 12, .inl fun _ => 0)), (u47, .inl (cA, 24, .inl fun _ => 0)), (u55, .inl (cA, 24, .inl fun _ => 0))] := hD
  refine x_putQ (pc := 57) (ci := 5) (q := u55) (C := RX5) (T := TX5) (NN := 16) E hin hP hD hS tyX5 tyX5_ok nmX5 rfl inX5 8 (by decide) q104 rfl rfl rfl rfl (Nat.le_of_ble_eq_true rfl) dX5_init_57 (fun H locs hP hD hS => ?_)
  have hP : va_P G vwCl [(h0, .inr (5, [.int 0, .ref u7, .ref u15, .ref u23, .ref u31, .ref u39, .int 0, .ref u47, .ref u55, .int 0, .null, .null, .null, .null, .int 0, .int 0])), (u7, .inl (cA, 12, .inl fun _ => 0)), (u15, .inl (cA, 12, .inl fun _ => 0)), (u23, .inl (cA, 12, .inl fun _ => 0)), (u31, .inl (cA, 12, .inl fun _ => 0)), (u39, .inl (cA, 12, .inl fun _ => 0)), (u47, .inl (cA, 24, .inl fun _ => 0)), (u55, .inl (cA, 24, .inl fun _ => 0))] H := hP
  have hD : va_D (A1 h0 s.heap.size) [(h0, .inr (5, [.int 0, .ref u7, .ref u15, .ref u23, .ref u31, .ref u39, .int 0, .ref u47, .ref u55, .int 0, .null, .null, .null, .null, .int 0, .int 0])), (u7, .inl (cA, 12, .inl fun _ => 0)), (u15, .inl (cA, 12, .inl fun _ => 0)), (u23, .inl (cA, 12, .inl fun _ => 0)), (u31, .inl (cA, 12, .inl fun _ => 0)), (u39, .inl (cA, 12, .inl fun _ => 0)), (u47, .inl (cA, 24, .inl fun _ => 0)), (u55, .inl (cA, 24, .inl fun _ => 0))] := hD
  refine lv_aload_n (pc := 60) hx hb dX5_init_60 rfl (lv_at hl 0 rfl) ?_
  refine lv_bipush (v := 12) (pc := 61) hx hb dX5_init_61 (by decide) ?_
  refine x_newr (pc := 63) (atype := .int) (ty := .int) (cA := cA) (N' := 12) E hP hD hS hA 0 rfl rfl (fun _ _ h => h) rfl q72 (by decide) (by decide) (Nat.le_of_ble_eq_true rfl) (Nat.le_of_ble_eq_true rfl) (Nat.le_of_ble_eq_true rfl) dX5_init_63 (fun u63 H hP hD hS => ?_)
  refine W.widen (k := 8) (n := 120) (Nat.le_of_ble_eq_true rfl) (Nat.le_of_ble_eq_true rfl) ?_
  have hP : va_P G vwCl [(h0, .inr (5, [.int 0, .ref u7, .ref u15, .ref u23, .ref u31, .ref u39, .int 0, .ref u47, .ref u55, .int 0, .null, .null, .null, .null, .int 0, .int 0])), (u7, .inl (cA, 12, .inl fun _ => 0)), (u15, .inl (cA, 12, .inl fun _ => 0)), (u23, .inl (cA, 12, .inl fun _ => 0)), (u31, .inl (cA, 12, .inl fun _ => 0)), (u39, .inl (cA, 12, .inl fun _ => 0)), (u47, .inl (cA, 24, .inl fun _ => 0)), (u55, .inl (cA, 24, .inl fun _ => 0)), (u63, .inl (cA, 12, .inl fun _ => 0))] H := hP
  have hD : va_D (A1 h0 s.heap.size) [(h0, .inr (5, [.int 0, .ref u7, .ref u15, .ref u23, .ref u31, .ref u39, .int 0, .ref u47, .ref u55, .int 0, .null, .null, .null, .null, .int 0, .int 0])), (u7, .inl (cA, 12, .inl fun _ => 0)), (u15, .inl (cA, 12, .inl fun _ => 0)), (u23, .inl (cA, 12, .inl fun _ => 0)), (u31, .inl (cA, 12, .inl fun _ => 0)), (u39, .inl (cA, 12, .inl fun _ => 0)), (u47, .inl (cA, 24, .inl fun _ => 0)), (u55, .inl (cA, 24, .inl fun _ => 0)), (u63, .inl (cA, 12, .inl fun _ => 0))] := hD
  refine x_putQ (pc := 65) (ci := 5) (q := u63) (C := RX5) (T := TX5) (NN := 16) E hin hP hD hS tyX5 tyX5_ok nmX5 rfl inX5 10 (by decide) q109 rfl rfl rfl rfl (Nat.le_of_ble_eq_true rfl) dX5_init_65 (fun H locs hP hD hS => ?_)
  have hP : va_P G vwCl [(h0, .inr (5, [.int 0, .ref u7, .ref u15, .ref u23, .ref u31, .ref u39, .int 0, .ref u47, .ref u55, .int 0, .ref u63, .null, .null, .null, .int 0, .int 0])), (u7, .inl (cA, 12, .inl fun _ => 0)), (u15, .inl (cA, 12, .inl fun _ => 0)), (u23, .inl (cA, 12, .inl fun _ => 0)), (u31, .inl (cA, 12, .inl fun _ => 0)), (u39, .inl (cA, 12, .inl fun _ => 0)), (u47, .inl (cA, 24, .inl fun _ => 0)), (u55, .inl (cA, 24, .inl fun _ => 0)), (u63, .inl (cA, 12, .inl fun _ => 0))] H := hP
  have hD : va_D (A1 h0 s.heap.size) [(h0, .inr (5, [.int 0, .ref u7, .ref u15, .ref u23, .ref u31, .ref u39, .int 0, .ref u47, .ref u55, .int 0, .ref u63, .null, .null, .null, .int 0, .int 0])), (u7, .inl (cA, 12, .inl fun _ => 0)), (u15, .inl (cA, 12, .inl fun _ => 0)), (u23, .inl (cA, 12, .inl fun _ => 0)), (u31, .inl (cA, 12, .inl fun _ => 0)), (u39, .inl (cA, 12, .inl fun _ => 0)), (u47, .inl (cA, 24, .inl fun _ => 0)), (u55, .inl (cA, 24, .inl fun _ => 0)), (u63, .inl (cA, 12, .inl fun _ => 0))] := hD
  refine lv_aload_n (pc := 68) hx hb dX5_init_68 rfl (lv_at hl 0 rfl) ?_
  refine lv_bipush (v := 12) (pc := 69) hx hb dX5_init_69 (by decide) ?_
  refine x_newr (pc := 71) (atype := .int) (ty := .int) (cA := cA) (N' := 12) E hP hD hS hA 0 rfl rfl (fun _ _ h => h) rfl q72 (by decide) (by decide) (Nat.le_of_ble_eq_true rfl) (Nat.le_of_ble_eq_true rfl) (Nat.le_of_ble_eq_true rfl) dX5_init_71 (fun u71 H hP hD hS => ?_)
  refine W.widen (k := 9) (n := 132) (Nat.le_of_ble_eq_true rfl) (Nat.le_of_ble_eq_true rfl) ?_
  have hP : va_P G vwCl [(h0, .inr (5, [.int 0, .ref u7, .ref u15, .ref u23, .ref u31, .ref u39, .int 0, .ref u47, .ref u55, .int 0, .ref u63, .null, .null, .null, .int 0, .int 0])), (u7, .inl (cA, 12, .inl fun _ => 0)), (u15, .inl (cA, 12, .inl fun _ => 0)), (u23, .inl (cA, 12, .inl fun _ => 0)), (u31, .inl (cA, 12, .inl fun _ => 0)), (u39, .inl (cA, 12, .inl fun _ => 0)), (u47, .inl (cA, 24, .inl fun _ => 0)), (u55, .inl (cA, 24, .inl fun _ => 0)), (u63, .inl (cA, 12, .inl fun _ => 0)), (u71, .inl (cA, 12, .inl fun _ => 0))] H := hP
  have hD : va_D (A1 h0 s.heap.size) [(h0, .inr (5, [.int 0, .ref u7, .ref u15, .ref u23, .ref u31, .ref u39, .int 0, .ref u47, .ref u55, .int 0, .ref u63, .null, .null, .null, .int 0, .int 0])), (u7, .inl (cA, 12, .inl fun _ => 0)), (u15, .inl (cA, 12, .inl fun _ => 0)), (u23, .inl (cA, 12, .inl fun _ => 0)), (u31, .inl (cA, 12, .inl fun _ => 0)), (u39, .inl (cA, 12, .inl fun _ => 0)), (u47, .inl (cA, 24, .inl fun _ => 0)), (u55, .inl (cA, 24, .inl fun _ => 0)), (u63, .inl (cA, 12, .inl fun _ => 0)), (u71, .inl (cA, 12, .inl fun _ => 0))] := hD
  refine x_putQ (pc := 73) (ci := 5) (q := u71) (C := RX5) (T := TX5) (NN := 16) E hin hP hD hS tyX5 tyX5_ok nmX5 rfl inX5 11 (by decide) q111 rfl rfl rfl rfl (Nat.le_of_ble_eq_true rfl) dX5_init_73 (fun H locs hP hD hS => ?_)
  have hP : va_P G vwCl [(h0, .inr (5, [.int 0, .ref u7, .ref u15, .ref u23, .ref u31, .ref u39, .int 0, .ref u47, .ref u55, .int 0, .ref u63, .ref u71, .null, .null, .int 0, .int 0])), (u7, .inl (cA, 12, .inl fun _ => 0)), (u15, .inl (cA, 12, .inl fun _ => 0)), (u23, .inl (cA, 12, .inl fun _ => 0)), (u31, .inl (cA, 12, .inl fun _ => 0)), (u39, .inl (cA, 12, .inl fun _ => 0)), (u47, .inl (cA, 24, .inl fun _ => 0)), (u55, .inl (cA, 24, .inl fun _ => 0)), (u63, .inl (cA, 12, .inl fun _ => 0)), (u71, .inl (cA, 12, .inl fun _ => 0))] H := hP
  have hD : va_D (A1 h0 s.heap.size) [(h0, .inr (5, [.int 0, .ref u7, .ref u15, .ref u23, .ref u31, .ref u39, .int 0, .ref u47, .ref u55, .int 0, .ref u63, .ref u71, .null, .null, .int 0, .int 0])), (u7, .inl (cA, 12, .inl fun _ => 0)), (u15, .inl (cA, 12, .inl fun _ => 0)), (u23, .inl (cA, 12, .inl fun _ => 0)), (u31, .inl (cA, 12, .inl fun _ => 0)), (u39, .inl (cA, 12, .inl fun _ => 0)), (u47, .inl (cA, 24, .inl fun _ => 0)), (u55, .inl (cA, 24, .inl fun _ => 0)), (u63, .inl (cA, 12, .inl fun _ => 0)), (u71, .inl (cA, 12, .inl fun _ => 0))] := hD
  refine lv_aload_n (pc := 76) hx hb dX5_init_76 rfl (lv_at hl 0 rfl) ?_
  refine lv_bipush (v := 12) (pc := 77) hx hb dX5_init_77 (by decide) ?_
  refine x_newr (pc := 79) (atype := .int) (ty := .int) (cA := cA) (N' := 12) E hP hD hS hA 0 rfl rfl (fun _ _ h => h) rfl q72 (by decide) (by decide) (Nat.le_of_ble_eq_true rfl) (Nat.le_of_ble_eq_true rfl) (Nat.le_of_ble_eq_true rfl) dX5_init_79 (fun u79 H hP hD hS => ?_)
  refine W.widen (k := 10) (n := 144) (Nat.le_of_ble_eq_true rfl) (Nat.le_of_ble_eq_true rfl) ?_
  have hP : va_P G vwCl [(h0, .inr (5, [.int 0, .ref u7, .ref u15, .ref u23, .ref u31, .ref u39, .int 0, .ref u47, .ref u55, .int 0, .ref u63, .ref u71, .null, .null, .int 0, .int 0])), (u7, .inl (cA, 12, .inl fun _ => 0)), (u15, .inl (cA, 12, .inl fun _ => 0)), (u23, .inl (cA, 12, .inl fun _ => 0)), (u31, .inl (cA, 12, .inl fun _ => 0)), (u39, .inl (cA, 12, .inl fun _ => 0)), (u47, .inl (cA, 24, .inl fun _ => 0)), (u55, .inl (cA, 24, .inl fun _ => 0)), (u63, .inl (cA, 12, .inl fun _ => 0)), (u71, .inl (cA, 12, .inl fun _ => 0)), (u79, .inl (cA, 12, .inl fun _ => 0))] H := hP
  have hD : va_D (A1 h0 s.heap.size) [(h0, .inr (5, [.int 0, .ref u7, .ref u15, .ref u23, .ref u31, .ref u39, .int 0, .ref u47, .ref u55, .int 0, .ref u63, .ref u71, .null, .null, .int 0, .int 0])), (u7, .inl (cA, 12, .inl fun _ => 0)), (u15, .inl (cA, 12, .inl fun _ => 0)), (u23, .inl (cA, 12, .inl fun _ => 0)), (u31, .inl (cA, 12, .inl fun _ => 0)), (u39, .inl (cA, 12, .inl fun _ => 0)), (u47, .inl (cA, 24, .inl fun _ => 0)), (u55, .inl (cA, 24, .inl fun _ => 0)), (u63, .inl (cA, 12, .inl fun _ => 0)), (u71, .inl (cA, 12, .inl fun _ => 0)), (u79, .inl (cA, 12, .inl fun _ => 0))] := hD
  refine x_putQ (pc := 81) (ci := 5) (q := u79) (C := RX5) (T := TX5) (NN := 16) E hin hP hD hS tyX5 tyX5_ok nmX5 rfl inX5 12 (by decide) q113 rfl rfl rfl rfl (Nat.le_of_ble_eq_true rfl) dX5_init_81 (fun H locs hP hD hS => ?_)
  have hP : va_P G vwCl [(h0, .inr (5, [.int 0, .ref u7, .ref u15, .ref u23, .ref u31, .ref u39, .int 0, .ref u47, .ref u55, .int 0, .ref u63, .ref u71, .ref u79, .null, .int 0, .int 0])), (u7, .inl (cA, 12, .inl fun _ => 0)), (u15, .inl (cA, 12, .inl fun _ => 0)), (u23, .inl (cA, 12, .inl fun _ => 0)), (u31, .inl (cA, 12, .inl fun _ => 0)), (u39, .inl (cA, 12, .inl fun _ => 0)), (u47, .inl (cA, 24, .inl fun _ => 0)), (u55, .inl (cA, 24, .inl fun _ => 0)), (u63, .inl (cA, 12, .inl fun _ => 0)), (u71, .inl (cA, 12, .inl fun _ => 0)), (u79, .inl (cA, 12, .inl fun _ => 0))] H := hP
  have hD : va_D (A1 h0 s.heap.size) [(h0, .inr (5, [.int 0, .ref u7, .ref u15, .ref u23, .ref u31, .ref u39, .int 0, .ref u47, .ref u55, .int 0, .ref u63, .ref u71, .ref u79, .null, .int 0, .int 0])), (u7, .inl (cA, 12, .inl fun _ => 0)), (u15, .inl (cA, 12, .inl fun _ => 0)), (u23, .inl (cA, 12, .inl fun _ => 0)), (u31, .inl (cA, 12, .inl fun _ => 0)), (u39, .inl (cA, 12, .inl fun _ => 0)), (u47, .inl (cA, 24, .inl fun _ => 0)), (u55, .inl (cA, 24, .inl fun _ => 0)), (u63, .inl (cA, 12, .inl fun _ => 0)), (u71, .inl (cA, 12, .inl fun _ => 0)), (u79, .inl (cA, 12, .inl fun _ => 0))] := hD
  refine lv_aload_n (pc := 84) hx hb dX5_init_84 rfl (lv_at hl 0 rfl) ?_
  refine lv_bipush (v := 12) (pc := 85) hx hb dX5_init_85 (by decide) ?_
  refine x_newr (pc := 87) (atype := .int) (ty := .int) (cA := cA) (N' := 12) E hP hD hS hA 0 rfl rfl (fun _ _ h => h) rfl q72 (by decide) (by decide) (Nat.le_of_ble_eq_true rfl) (Nat.le_of_ble_eq_true rfl) (Nat.le_of_ble_eq_true rfl) dX5_init_87 (fun u87 H hP hD hS => ?_)
  refine W.widen (k := 11) (n := 156) (Nat.le_of_ble_eq_true rfl) (Nat.le_of_ble_eq_true rfl) ?_
  have hP : va_P G vwCl [(h0, .inr (5, [.int 0, .ref u7, .ref u15, .ref u23, .ref u31, .ref u39, .int 0, .ref u47, .ref u55, .int 0, .ref u63, .ref u71, .ref u79, .null, .int 0, .int 0])), (u7, .inl (cA, 12, .inl fun _ => 0)), (u15, .inl (cA, 12, .inl fun _ => 0)), (u23, .inl (cA, 12, .inl fun _ => 0)), (u31, .inl (cA, 12, .inl fun _ => 0)), (u39, .inl (cA, 12, .inl fun _ => 0)), (u47, .inl (cA, 24, .inl fun _ => 0)), (u55, .inl (cA, 24, .inl fun _ => 0)), (u63, .inl (cA, 12, .inl fun _ => 0)), (u71, .inl (cA, 12, .inl fun _ => 0)), (u79, .inl (cA, 12, .inl fun _ => 0)), (u87, .inl (cA, 12, .inl fun _ => 0))] H := hP
  have hD : va_D (A1 h0 s.heap.size) [(h0, .inr (5, [.int 0, .ref u7, .ref u15, .ref u23, .ref u31, .ref u39, .int 0, .ref u47, .ref u55, .int 0, .ref u63, .ref u71, .ref u79, .null, .int 0, .int 0])), (u7, .inl (cA, 12, .inl fun _ => 0)), (u15, .inl (cA, 12, .inl fun _ => 0)), (u23, .inl (cA, 12, .inl fun _ => 0)), (u31, .inl (cA, 12, .inl fun _ => 0)), (u39, .inl (cA, 12, .inl fun _ => 0)), (u47, .inl (cA, 24, .inl fun _ => 0)), (u55, .inl (cA, 24, .inl fun _ => 0)), (u63, .inl (cA, 12, .inl fun _ => 0)), (u71, .inl (cA, 12, .inl fun _ => 0)), (u79, .inl (cA, 12, .inl fun _ => 0)), (u87, .inl (cA, 12, .inl fun _ => 0))] := hD
  refine x_putQ (pc := 89) (ci := 5) (q := u87) (C := RX5) (T := TX5) (NN := 16) E hin hP hD hS tyX5 tyX5_ok nmX5 rfl inX5 13 (by decide) q115 rfl rfl rfl rfl (Nat.le_of_ble_eq_true rfl) dX5_init_89 (fun H locs hP hD hS => ?_)
  have hP : va_P G vwCl [(h0, .inr (5, [.int 0, .ref u7, .ref u15, .ref u23, .ref u31, .ref u39, .int 0, .ref u47, .ref u55, .int 0, .ref u63, .ref u71, .ref u79, .ref u87, .int 0, .int 0])), (u7, .inl (cA, 12, .inl fun _ => 0)), (u15, .inl (cA, 12, .inl fun _ => 0)), (u23, .inl (cA, 12, .inl fun _ => 0)), (u31, .inl (cA, 12, .inl fun _ => 0)), (u39, .inl (cA, 12, .inl fun _ => 0)), (u47, .inl (cA, 24, .inl fun _ => 0)), (u55, .inl (cA, 24, .inl fun _ => 0)), (u63, .inl (cA, 12, .inl fun _ => 0)), (u71, .inl (cA, 12, .inl fun _ => 0)), (u79, .inl (cA, 12, .inl fun _ => 0)), (u87, .inl (cA, 12, .inl fun _ => 0))] H := hP
  have hD : va_D (A1 h0 s.heap.size) [(h0, .inr (5, [.int 0, .ref u7, .ref u15, .ref u23, .ref u31, .ref u39, .int 0, .ref u47, .ref u55, .int 0, .ref u63, .ref u71, .ref u79, .ref u87, .int 0, .int 0])), (u7, .inl (cA, 12, .inl fun _ => 0)), (u15, .inl (cA, 12, .inl fun _ => 0)), (u23, .inl (cA, 12, .inl fun _ => 0)), (u31, .inl (cA, 12, .inl fun _ => 0)), (u39, .inl (cA, 12, .inl fun _ => 0)), (u47, .inl (cA, 24, .inl fun _ => 0)), (u55, .inl (cA, 24, .inl fun _ => 0)), (u63, .inl (cA, 12, .inl fun _ => 0)), (u71, .inl (cA, 12, .inl fun _ => 0)), (u79, .inl (cA, 12, .inl fun _ => 0)), (u87, .inl (cA, 12, .inl fun _ => 0))] := hD
  refine lv_aload_n (pc := 92) hx hb dX5_init_92 rfl (lv_at hl 0 rfl) ?_
  refine lv_iconst (v := 1) (pc := 93) hx hb dX5_init_93 (by decide) ?_
  refine x_putI (pc := 94) (ci := 5) (v := 1) (C := RX5) (T := TX5) (NN := 16) E hP hD hS tyX5 tyX5_ok nmX5 rfl inX5 0 (by decide) q88 rfl rfl (by decide +kernel) (Nat.le_of_ble_eq_true rfl) dX5_init_94 (fun H locs hP hD hS => ?_)
  have hP : va_P G vwCl [(h0, .inr (5, [.int 1, .ref u7, .ref u15, .ref u23, .ref u31, .ref u39, .int 0, .ref u47, .ref u55, .int 0, .ref u63, .ref u71, .ref u79, .ref u87, .int 0, .int 0])), (u7, .inl (cA, 12, .inl fun _ => 0)), (u15, .inl (cA, 12, .inl fun _ => 0)), (u23, .inl (cA, 12, .inl fun _ => 0)), (u31, .inl (cA, 12, .inl fun _ => 0)), (u39, .inl (cA, 12, .inl fun _ => 0)), (u47, .inl (cA, 24, .inl fun _ => 0)), (u55, .inl (cA, 24, .inl fun _ => 0)), (u63, .inl (cA, 12, .inl fun _ => 0)), (u71, .inl (cA, 12, .inl fun _ => 0)), (u79, .inl (cA, 12, .inl fun _ => 0)), (u87, .inl (cA, 12, .inl fun _ => 0))] H := hP
  have hD : va_D (A1 h0 s.heap.size) [(h0, .inr (5, [.int 1, .ref u7, .ref u15, .ref u23, .ref u31, .ref u39, .int 0, .ref u47, .ref u55, .int 0, .ref u63, .ref u71, .ref u79, .ref u87, .int 0, .int 0])), (u7, .inl (cA, 12, .inl fun _ => 0)), (u15, .inl (cA, 12, .inl fun _ => 0)), (u23, .inl (cA, 12, .inl fun _ => 0)), (u31, .inl (cA, 12, .inl fun _ => 0)), (u39, .inl (cA, 12, .inl fun _ => 0)), (u47, .inl (cA, 24, .inl fun _ => 0)), (u55, .inl (cA, 24, .inl fun _ => 0)), (u63, .inl (cA, 12, .inl fun _ => 0)), (u71, .inl (cA, 12, .inl fun _ => 0)), (u79, .inl (cA, 12, .inl fun _ => 0)), (u87, .inl (cA, 12, .inl fun _ => 0))] := hD
  refine lv_aload_n (pc := 97) hx hb dX5_init_97 rfl (lv_at hl 0 rfl) ?_
  refine x_getQ (pc := 98) (ci := 5) (v := .ref u31) (C := RX5) (T := TX5) (NN := 16) E hP rfl inX5 4 (by decide) q96 rfl dX5_init_98 ?_
  refine lv_iconst (v := 0) (pc := 101) hx hb dX5_init_101 (by decide) ?_
  refine lv_iconst (v := 1) (pc := 102) hx hb dX5_init_102 (by decide) ?_
  have hPc : va_P G vwCl (WW 1 (fun _ row => .inl (cA, 12, .inl row)) (fun _ => u31) (fun _ => fun _ => 0)) H := hP.sub (ws' := [(u31, .inl (cA, 12, .inl fun _ => 0))]) [4] rfl
  have hAq : ∀ z, AW 1 (fun _ => u31) z → A1 h0 s.heap.size z := fun z hz => by obtain ⟨_, _, rfl⟩ := hz; exact hD.2 4 _ rfl
  refine va_callv (pc := 103) (va_runSN (As := [.ref u31, .int 0, .int 1]) (rest := []) ⟨hx, hb, E.2.2.1, E.2.2.2.2.2.1, E.2.2.2.2.2.2.1⟩ (c_put1 (Ex := ExN) (ad := fun _ => u31) (cA := cA) (tys := TY cA cZ cC) rfl (fun _ => fun _ => 0) (n := 12) (Nat.le_of_ble_eq_true rfl) 0 1 (wr (fun _ => fun _ => 0) 0 (Int32.toNatClampNeg 0) 1) (if_pos (by decide)) l) ⟨va_cnB 3 E.2.2.2.2.2.2.1 (gC q87) rfl rfl rfl (show va_Nw (.methodLinkNest RX5 49 yX7_put RX7) s from E.2.2.2.2.2.2.2.2.1 _ (List.mem_of_getElem? (i := 2) rfl)) (E.2.2.2.2.2.2.1 _ q17) (by decide +kernel) ⟨Nat.le_of_ble_eq_true rfl, Nat.le_of_ble_eq_true rfl⟩, E.2.2.2.2.2.2.1 _ q86, trivial⟩ ⟨PW.blind (ExN.ok 1 _), fun U hU hW => ⟨rfl, by rw [hU]; exact hPc, va_K.moved hW.alike E.2.2.2.2.2.2.2.1, ExN.moved E.2.2.2.2.2.2.2.2.1 hW⟩⟩ rfl rfl hl.1 rfl (lv_room (Nat.le_of_ble_eq_true rfl)) dX5_init_103 ⟨Nat.le_of_ble_eq_true rfl, Nat.le_of_ble_eq_true rfl⟩) hS (fun z _ h => hAq z h) hAq (fun u t H1 locs ht hvm hw hB hz1 hk1 hS => ?_)
  rw [ht] at hB
  have hP := P_put (k := 4) (a := u31) hP hD rfl (show va_P G vwCl [(u31, .inl (cA, 12, .inl (upd (fun _ => 0) 0 1)))] H1 from hB) (fun z h1 h2 => hk1 z h1 (fun hz => by obtain ⟨_, _, rfl⟩ := hz; exact h2 rfl))
  have hD := hD.set (p := 4) (a := u31) (e := .inl (cA, 12, .inl (upd (fun _ => 0) 0 1))) rfl
  generalize H1 = H at hP hS
  have hP : va_P G vwCl [(h0, .inr (5, [.int 1, .ref u7, .ref u15, .ref u23, .ref u31, .ref u39, .int 0, .ref u47, .ref u55, .int 0, .ref u63, .ref u71, .ref u79, .ref u87, .int 0, .int 0])), (u7, .inl (cA, 12, .inl fun _ => 0)), (u15, .inl (cA, 12, .inl fun _ => 0)), (u23, .inl (cA, 12, .inl fun _ => 0)), (u31, .inl (cA, 12, .inl (upd (fun _ => 0) 0 1))), (u39, .inl (cA, 12, .inl fun _ => 0)), (u47, .inl (cA, 24, .inl fun _ => 0)), (u55, .inl (cA, 24, .inl fun _ => 0)), (u63, .inl (cA, 12, .inl fun _ => 0)), (u71, .inl (cA, 12, .inl fun _ => 0)), (u79, .inl (cA, 12, .inl fun _ => 0)), (u87, .inl (cA, 12, .inl fun _ => 0))] H := hP
  have hD : va_D (A1 h0 s.heap.size) [(h0, .inr (5, [.int 1, .ref u7, .ref u15, .ref u23, .ref u31, .ref u39, .int 0, .ref u47, .ref u55, .int 0, .ref u63, .ref u71, .ref u79, .ref u87, .int 0, .int 0])), (u7, .inl (cA, 12, .inl fun _ => 0)), (u15, .inl (cA, 12, .inl fun _ => 0)), (u23, .inl (cA, 12, .inl fun _ => 0)), (u31, .inl (cA, 12, .inl (upd (fun _ => 0) 0 1))), (u39, .inl (cA, 12, .inl fun _ => 0)), (u47, .inl (cA, 24, .inl fun _ => 0)), (u55, .inl (cA, 24, .inl fun _ => 0)), (u63, .inl (cA, 12, .inl fun _ => 0)), (u71, .inl (cA, 12, .inl fun _ => 0)), (u79, .inl (cA, 12, .inl fun _ => 0)), (u87, .inl (cA, 12, .inl fun _ => 0))] := hD
  exact x_mret (pc := 106) E (fun k => [h0, u7, u15, u23, u31, u39, u47, u55, u63, u71, u79, u87].getD k 0) rfl hP hD hS dX5_init_106
end CN
