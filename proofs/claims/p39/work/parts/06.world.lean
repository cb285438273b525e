def bz (x : Int32) : Int32 := x &&& 1
theorem bz_bz (x : Int32) : bz (bz x) = bz x := by unfold bz; rw [Int32.and_assoc]; rfl
theorem bz_nar (x : Int32) : narrow .boolean (.int (bz x)) = .int (bz x) := by show Value.int (bz x &&& 1) = _; rw [show bz x &&& 1 = bz (bz x) from rfl, bz_bz]
def cellRoom (cA : ClassId) (ad : Nat → Nat) (r j : Nat) (row : Nat → Int32) : va_E := match j with
  | 0 => .inr (5, [.int (row 0), .ref (ad (r + 1)), .ref (ad (r + 2)), .ref (ad (r + 3)), .ref (ad (r + 4)), .ref (ad (r + 5)), .int (row 6), .ref (ad (r + 6)), .ref (ad (r + 7)), .int (row 9), .ref (ad (r + 8)), .ref (ad (r + 9)), .ref (ad (r + 10)), .ref (ad (r + 11)), .int (row 14), .int (row 15)])
  | 6 => .inl (cA, 24, .inl row)
  | 7 => .inl (cA, 24, .inl row)
  | _ => .inl (cA, 12, .inl row)
def cellState (cA : ClassId) (ad : Nat → Nat) (t j : Nat) (row : Nat → Int32) : va_E := match j with
  | 0 => .inr (6, [.ref (ad (t + 1)), .ref (ad (t + 13)), .ref (ad (t + 16)), .ref (ad (t + 17)), .ref (ad (t + 19)), .int (row 5), .int (row 6), .int (row 7), .int (row 8)])
  | 13 => .inr (3, [.int (row 0), .ref (ad (t + 14)), .ref (ad (t + 15))])
  | 14 => .inl (cA, 8, .inl row)
  | 15 => .inl (cA, 8, .inl row)
  | 16 => .inr (1, [.int (bz (row 0)), .int (row 1), .int (row 2), .int (row 3), .int (row 4), .int (row 5), .int (row 6)])
  | 17 => .inr (4, [.int (row 0), .ref (ad (t + 18))])
  | 18 => .inl (cA, 210, .inl row)
  | 19 => .inr (2, [.int (row 0), .ref (ad (t + 20))])
  | 20 => .inl (cA, 2048, .inl row)
  | j => cellRoom cA ad (t + 1) (j - 1) row
def shX (cA : ClassId) (ad : Nat → Nat) (k : Nat) (row : Nat → Int32) : va_E :=
  if k = 0 then .inr (7, [.ref (ad 1), .ref (ad 3), .ref (ad 24), .ref (ad 45), .ref (ad 66), .int (row 5)])
  else if k = 1 then .inr (0, [.ref (ad 2), .int (row 1), .int (row 2), .int (row 3), .int (row 4), .int (row 5), .int (row 6)])
  else if k = 2 then .inl (cA, 20, .inl row)
  else if k < 24 then cellState cA ad 3 (k - 3) row
  else if k < 45 then cellState cA ad 24 (k - 24) row
  else if k < 66 then cellState cA ad 45 (k - 45) row
  else cellRoom cA ad 66 (k - 66) row
abbrev TY (cA _ _ : ClassId) : List (ClassId × FieldType) := [(cA, .int)]
def StA (k : Nat) : Prop := k = 3 ∨ k = 24 ∨ k = 45
theorem StA_3 : StA 3 := Or.inl rfl
theorem StA_24 : StA 24 := Or.inr (Or.inl rfl)
theorem StA_45 : StA 45 := Or.inr (Or.inr (rfl))
theorem StA.lt {k : Nat} (h : StA k) : k < 78 := by rcases h with rfl | rfl | rfl <;> decide
def RoA (k : Nat) : Prop := k = 4 ∨ k = 25 ∨ k = 46 ∨ k = 66
theorem RoA_4 : RoA 4 := Or.inl rfl
theorem RoA_25 : RoA 25 := Or.inr (Or.inl rfl)
theorem RoA_46 : RoA 46 := Or.inr (Or.inr (Or.inl rfl))
theorem RoA_66 : RoA 66 := Or.inr (Or.inr (Or.inr (rfl)))
theorem RoA.lt {k : Nat} (h : RoA k) : k < 78 := by rcases h with rfl | rfl | rfl | rfl <;> decide
def QuA (k : Nat) : Prop := k = 16 ∨ k = 37 ∨ k = 58
theorem QuA_16 : QuA 16 := Or.inl rfl
theorem QuA_37 : QuA 37 := Or.inr (Or.inl rfl)
theorem QuA_58 : QuA 58 := Or.inr (Or.inr (rfl))
theorem QuA.lt {k : Nat} (h : QuA k) : k < 78 := by rcases h with rfl | rfl | rfl <;> decide
def GaA (k : Nat) : Prop := k = 19 ∨ k = 40 ∨ k = 61
theorem GaA_19 : GaA 19 := Or.inl rfl
theorem GaA_40 : GaA 40 := Or.inr (Or.inl rfl)
theorem GaA_61 : GaA 61 := Or.inr (Or.inr (rfl))
theorem GaA.lt {k : Nat} (h : GaA k) : k < 78 := by rcases h with rfl | rfl | rfl <;> decide
def ReA (k : Nat) : Prop := k = 20 ∨ k = 41 ∨ k = 62
theorem ReA_20 : ReA 20 := Or.inl rfl
theorem ReA_41 : ReA 41 := Or.inr (Or.inl rfl)
theorem ReA_62 : ReA 62 := Or.inr (Or.inr (rfl))
theorem ReA.lt {k : Nat} (h : ReA k) : k < 78 := by rcases h with rfl | rfl | rfl <;> decide
def LoA (k : Nat) : Prop := k = 22 ∨ k = 43 ∨ k = 64
theorem LoA_22 : LoA 22 := Or.inl rfl
theorem LoA_43 : LoA 43 := Or.inr (Or.inl rfl)
theorem LoA_64 : LoA 64 := Or.inr (Or.inr (rfl))
theorem LoA.lt {k : Nat} (h : LoA k) : k < 78 := by rcases h with rfl | rfl | rfl <;> decide
theorem StA.RoA {k : Nat} (h : StA k) : RoA (k + 1) := by
  rcases h with rfl | rfl | rfl
  · exact RoA_4
  · exact RoA_25
  · exact RoA_46
theorem StA.QuA {k : Nat} (h : StA k) : QuA (k + 13) := by
  rcases h with rfl | rfl | rfl
  · exact QuA_16
  · exact QuA_37
  · exact QuA_58
theorem StA.GaA {k : Nat} (h : StA k) : GaA (k + 16) := by
  rcases h with rfl | rfl | rfl
  · exact GaA_19
  · exact GaA_40
  · exact GaA_61
theorem StA.ReA {k : Nat} (h : StA k) : ReA (k + 17) := by
  rcases h with rfl | rfl | rfl
  · exact ReA_20
  · exact ReA_41
  · exact ReA_62
theorem StA.LoA {k : Nat} (h : StA k) : LoA (k + 19) := by
  rcases h with rfl | rfl | rfl
  · exact LoA_22
  · exact LoA_43
  · exact LoA_64
section SH
variable {cA cZ cC : ClassId} {ad : Nat → Nat}
theorem sh7 : ∀ row, shX cA ad 0 row = .inr (7, [.ref (ad 1), .ref (ad 3), .ref (ad 24), .ref (ad 45), .ref (ad 66), .int (row 5)]) := fun _ => rfl
theorem sh0 : ∀ row, shX cA ad 1 row = .inr (0, [.ref (ad 2), .int (row 1), .int (row 2), .int (row 3), .int (row 4), .int (row 5), .int (row 6)]) := fun _ => rfl
theorem sh0a1 : ∀ row, shX cA ad 2 row = .inl (cA, 20, .inl row) := fun _ => rfl
theorem sh6 {k : Nat} (h : StA k) : ∀ row, shX cA ad k row = .inr (6, [.ref (ad (k + 1)), .ref (ad (k + 13)), .ref (ad (k + 16)), .ref (ad (k + 17)), .ref (ad (k + 19)), .int (row 5), .int (row 6), .int (row 7), .int (row 8)]) := by rcases h with rfl | rfl | rfl <;> exact fun _ => rfl
theorem sh5 {k : Nat} (h : RoA k) : ∀ row, shX cA ad k row = .inr (5, [.int (row 0), .ref (ad (k + 1)), .ref (ad (k + 2)), .ref (ad (k + 3)), .ref (ad (k + 4)), .ref (ad (k + 5)), .int (row 6), .ref (ad (k + 6)), .ref (ad (k + 7)), .int (row 9), .ref (ad (k + 8)), .ref (ad (k + 9)), .ref (ad (k + 10)), .ref (ad (k + 11)), .int (row 14), .int (row 15)]) := by rcases h with rfl | rfl | rfl | rfl <;> exact fun _ => rfl
theorem sh5a1 {k : Nat} (h : RoA k) : ∀ row, shX cA ad (k + 1) row = .inl (cA, 12, .inl row) := by rcases h with rfl | rfl | rfl | rfl <;> exact fun _ => rfl
theorem lt5a1 {k : Nat} (h : RoA k) : k + 1 < 78 := by rcases h with rfl | rfl | rfl | rfl <;> decide
theorem sh5a2 {k : Nat} (h : RoA k) : ∀ row, shX cA ad (k + 2) row = .inl (cA, 12, .inl row) := by rcases h with rfl | rfl | rfl | rfl <;> exact fun _ => rfl
theorem lt5a2 {k : Nat} (h : RoA k) : k + 2 < 78 := by rcases h with rfl | rfl | rfl | rfl <;> decide
theorem sh5a3 {k : Nat} (h : RoA k) : ∀ row, shX cA ad (k + 3) row = .inl (cA, 12, .inl row) := by rcases h with rfl | rfl | rfl | rfl <;> exact fun _ => rfl
theorem lt5a3 {k : Nat} (h : RoA k) : k + 3 < 78 := by rcases h with rfl | rfl | rfl | rfl <;> decide
theorem sh5a4 {k : Nat} (h : RoA k) : ∀ row, shX cA ad (k + 4) row = .inl (cA, 12, .inl row) := by rcases h with rfl | rfl | rfl | rfl <;> exact fun _ => rfl
theorem lt5a4 {k : Nat} (h : RoA k) : k + 4 < 78 := by rcases h with rfl | rfl | rfl | rfl <;> decide
theorem sh5a5 {k : Nat} (h : RoA k) : ∀ row, shX cA ad (k + 5) row = .inl (cA, 12, .inl row) := by rcases h with rfl | rfl | rfl | rfl <;> exact fun _ => rfl
theorem lt5a5 {k : Nat} (h : RoA k) : k + 5 < 78 := by rcases h with rfl | rfl | rfl | rfl <;> decide
theorem sh5a6 {k : Nat} (h : RoA k) : ∀ row, shX cA ad (k + 6) row = .inl (cA, 24, .inl row) := by rcases h with rfl | rfl | rfl | rfl <;> exact fun _ => rfl
theorem lt5a6 {k : Nat} (h : RoA k) : k + 6 < 78 := by rcases h with rfl | rfl | rfl | rfl <;> decide
theorem sh5a7 {k : Nat} (h : RoA k) : ∀ row, shX cA ad (k + 7) row = .inl (cA, 24, .inl row) := by rcases h with rfl | rfl | rfl | rfl <;> exact fun _ => rfl
theorem lt5a7 {k : Nat} (h : RoA k) : k + 7 < 78 := by rcases h with rfl | rfl | rfl | rfl <;> decide
theorem sh5a8 {k : Nat} (h : RoA k) : ∀ row, shX cA ad (k + 8) row = .inl (cA, 12, .inl row) := by rcases h with rfl | rfl | rfl | rfl <;> exact fun _ => rfl
theorem lt5a8 {k : Nat} (h : RoA k) : k + 8 < 78 := by rcases h with rfl | rfl | rfl | rfl <;> decide
theorem sh5a9 {k : Nat} (h : RoA k) : ∀ row, shX cA ad (k + 9) row = .inl (cA, 12, .inl row) := by rcases h with rfl | rfl | rfl | rfl <;> exact fun _ => rfl
theorem lt5a9 {k : Nat} (h : RoA k) : k + 9 < 78 := by rcases h with rfl | rfl | rfl | rfl <;> decide
theorem sh5a10 {k : Nat} (h : RoA k) : ∀ row, shX cA ad (k + 10) row = .inl (cA, 12, .inl row) := by rcases h with rfl | rfl | rfl | rfl <;> exact fun _ => rfl
theorem lt5a10 {k : Nat} (h : RoA k) : k + 10 < 78 := by rcases h with rfl | rfl | rfl | rfl <;> decide
theorem sh5a11 {k : Nat} (h : RoA k) : ∀ row, shX cA ad (k + 11) row = .inl (cA, 12, .inl row) := by rcases h with rfl | rfl | rfl | rfl <;> exact fun _ => rfl
theorem lt5a11 {k : Nat} (h : RoA k) : k + 11 < 78 := by rcases h with rfl | rfl | rfl | rfl <;> decide
theorem sh3 {k : Nat} (h : QuA k) : ∀ row, shX cA ad k row = .inr (3, [.int (row 0), .ref (ad (k + 1)), .ref (ad (k + 2))]) := by rcases h with rfl | rfl | rfl <;> exact fun _ => rfl
theorem sh3a1 {k : Nat} (h : QuA k) : ∀ row, shX cA ad (k + 1) row = .inl (cA, 8, .inl row) := by rcases h with rfl | rfl | rfl <;> exact fun _ => rfl
theorem lt3a1 {k : Nat} (h : QuA k) : k + 1 < 78 := by rcases h with rfl | rfl | rfl <;> decide
theorem sh3a2 {k : Nat} (h : QuA k) : ∀ row, shX cA ad (k + 2) row = .inl (cA, 8, .inl row) := by rcases h with rfl | rfl | rfl <;> exact fun _ => rfl
theorem lt3a2 {k : Nat} (h : QuA k) : k + 2 < 78 := by rcases h with rfl | rfl | rfl <;> decide
theorem sh1 {k : Nat} (h : GaA k) : ∀ row, shX cA ad k row = .inr (1, [.int (bz (row 0)), .int (row 1), .int (row 2), .int (row 3), .int (row 4), .int (row 5), .int (row 6)]) := by rcases h with rfl | rfl | rfl <;> exact fun _ => rfl
theorem sh4 {k : Nat} (h : ReA k) : ∀ row, shX cA ad k row = .inr (4, [.int (row 0), .ref (ad (k + 1))]) := by rcases h with rfl | rfl | rfl <;> exact fun _ => rfl
theorem sh4a1 {k : Nat} (h : ReA k) : ∀ row, shX cA ad (k + 1) row = .inl (cA, 210, .inl row) := by rcases h with rfl | rfl | rfl <;> exact fun _ => rfl
theorem lt4a1 {k : Nat} (h : ReA k) : k + 1 < 78 := by rcases h with rfl | rfl | rfl <;> decide
theorem sh2 {k : Nat} (h : LoA k) : ∀ row, shX cA ad k row = .inr (2, [.int (row 0), .ref (ad (k + 1))]) := by rcases h with rfl | rfl | rfl <;> exact fun _ => rfl
theorem sh2a1 {k : Nat} (h : LoA k) : ∀ row, shX cA ad (k + 1) row = .inl (cA, 2048, .inl row) := by rcases h with rfl | rfl | rfl <;> exact fun _ => rfl
theorem lt2a1 {k : Nat} (h : LoA k) : k + 1 < 78 := by rcases h with rfl | rfl | rfl <;> decide
end SH
theorem inX0 : ∀ w ∈ u_ws RX0 TX0 7, w ∈ TB := by
  intro w hw
  obtain ⟨k, hk, rfl⟩ := List.mem_map.mp hw
  rw [List.mem_range] at hk
  match k, hk with
  | 0, _ => exact TBm 57 (by decide +kernel) rfl
  | 1, _ => exact TBm 59 (by decide +kernel) rfl
  | 2, _ => exact TBm 61 (by decide +kernel) rfl
  | 3, _ => exact TBm 63 (by decide +kernel) rfl
  | 4, _ => exact TBm 65 (by decide +kernel) rfl
  | 5, _ => exact TBm 67 (by decide +kernel) rfl
  | 6, _ => exact TBm 69 (by decide +kernel) rfl
  | k + 7, h => exact absurd h (by omega)
theorem inX1 : ∀ w ∈ u_ws RX1 TX1 7, w ∈ TB := by
  intro w hw
  obtain ⟨k, hk, rfl⟩ := List.mem_map.mp hw
  rw [List.mem_range] at hk
  match k, hk with
  | 0, _ => exact TBm 207 (by decide +kernel) rfl
  | 1, _ => exact TBm 209 (by decide +kernel) rfl
  | 2, _ => exact TBm 211 (by decide +kernel) rfl
  | 3, _ => exact TBm 213 (by decide +kernel) rfl
  | 4, _ => exact TBm 215 (by decide +kernel) rfl
  | 5, _ => exact TBm 217 (by decide +kernel) rfl
  | 6, _ => exact TBm 219 (by decide +kernel) rfl
  | k + 7, h => exact absurd h (by omega)
theorem inX2 : ∀ w ∈ u_ws RX2 TX2 2, w ∈ TB := by
  intro w hw
  obtain ⟨k, hk, rfl⟩ := List.mem_map.mp hw
  rw [List.mem_range] at hk
  match k, hk with
  | 0, _ => exact TBm 248 (by decide +kernel) rfl
  | 1, _ => exact TBm 250 (by decide +kernel) rfl
  | k + 2, h => exact absurd h (by omega)
theorem inX3 : ∀ w ∈ u_ws RX3 TX3 3, w ∈ TB := by
  intro w hw
  obtain ⟨k, hk, rfl⟩ := List.mem_map.mp hw
  rw [List.mem_range] at hk
  match k, hk with
  | 0, _ => exact TBm 170 (by decide +kernel) rfl
  | 1, _ => exact TBm 172 (by decide +kernel) rfl
  | 2, _ => exact TBm 174 (by decide +kernel) rfl
  | k + 3, h => exact absurd h (by omega)
theorem inX4 : ∀ w ∈ u_ws RX4 TX4 2, w ∈ TB := by
  intro w hw
  obtain ⟨k, hk, rfl⟩ := List.mem_map.mp hw
  rw [List.mem_range] at hk
  match k, hk with
  | 0, _ => exact TBm 232 (by decide +kernel) rfl
  | 1, _ => exact TBm 234 (by decide +kernel) rfl
  | k + 2, h => exact absurd h (by omega)
theorem inX5 : ∀ w ∈ u_ws RX5 TX5 16, w ∈ TB := by
  intro w hw
  obtain ⟨k, hk, rfl⟩ := List.mem_map.mp hw
  rw [List.mem_range] at hk
  match k, hk with
  | 0, _ => exact TBm 123 (by decide +kernel) rfl
  | 1, _ => exact TBm 125 (by decide +kernel) rfl
  | 2, _ => exact TBm 127 (by decide +kernel) rfl
  | 3, _ => exact TBm 129 (by decide +kernel) rfl
  | 4, _ => exact TBm 131 (by decide +kernel) rfl
  | 5, _ => exact TBm 133 (by decide +kernel) rfl
  | 6, _ => exact TBm 135 (by decide +kernel) rfl
  | 7, _ => exact TBm 137 (by decide +kernel) rfl
  | 8, _ => exact TBm 139 (by decide +kernel) rfl
  | 9, _ => exact TBm 141 (by decide +kernel) rfl
  | 10, _ => exact TBm 143 (by decide +kernel) rfl
  | 11, _ => exact TBm 145 (by decide +kernel) rfl
  | 12, _ => exact TBm 147 (by decide +kernel) rfl
  | 13, _ => exact TBm 149 (by decide +kernel) rfl
  | 14, _ => exact TBm 151 (by decide +kernel) rfl
  | 15, _ => exact TBm 153 (by decide +kernel) rfl
  | k + 16, h => exact absurd h (by omega)
theorem inX6 : ∀ w ∈ u_ws RX6 TX6 9, w ∈ TB := by
  intro w hw
  obtain ⟨k, hk, rfl⟩ := List.mem_map.mp hw
  rw [List.mem_range] at hk
  match k, hk with
  | 0, _ => exact TBm 271 (by decide +kernel) rfl
  | 1, _ => exact TBm 273 (by decide +kernel) rfl
  | 2, _ => exact TBm 275 (by decide +kernel) rfl
  | 3, _ => exact TBm 277 (by decide +kernel) rfl
  | 4, _ => exact TBm 279 (by decide +kernel) rfl
  | 5, _ => exact TBm 281 (by decide +kernel) rfl
  | 6, _ => exact TBm 283 (by decide +kernel) rfl
  | 7, _ => exact TBm 285 (by decide +kernel) rfl
  | 8, _ => exact TBm 287 (by decide +kernel) rfl
  | k + 9, h => exact absurd h (by omega)
theorem inX7 : ∀ w ∈ u_ws RX7 TX7 6, w ∈ TB := by
  intro w hw
  obtain ⟨k, hk, rfl⟩ := List.mem_map.mp hw
  rw [List.mem_range] at hk
  match k, hk with
  | 0, _ => exact TBm 298 (by decide +kernel) rfl
  | 1, _ => exact TBm 300 (by decide +kernel) rfl
  | 2, _ => exact TBm 302 (by decide +kernel) rfl
  | 3, _ => exact TBm 304 (by decide +kernel) rfl
  | 4, _ => exact TBm 306 (by decide +kernel) rfl
  | 5, _ => exact TBm 308 (by decide +kernel) rfl
  | k + 6, h => exact absurd h (by omega)
def nestW : List Cond := [.methodLinkNest RX7 (9) yX0_init RX7, .methodLinkNest RX7 (18) yX6_init RX7, .methodLinkNest RX5 (49) yX7_put RX7, .methodLinkNest RX6 (20) yX3_init RX7, .methodLinkNest RX6 (27) yX1_init RX7, .methodLinkNest RX6 (34) yX4_init RX7, .methodLinkNest RX6 (41) yX2_init RX7, .methodLinkNest RX5 (69) yX7_at RX7, .methodLinkNest RX5 (53) yX7_copyRow RX7, .methodLinkNest RX5 (135) yX7_stepKind RX7, .methodLinkNest RX5 (106) yX7_actMinutes RX7, .methodLinkNest RX3 (30) yX7_at RX7, .methodLinkNest RX4 (44) yX7_at RX7, .methodLinkNest RX6 (97) yX7_at RX7, .methodLinkNest RX0 (71) yX7_at RX7, .methodLinkNest RX2 (23) yX7_put RX7, .methodLinkNest RX6 (146) yX7_asNumber RX7, .methodLinkNest RX4 (28) yX7_put RX7, .methodLinkNest RX6 (172) yX7_put RX7, .methodLinkNest RX3 (26) yX7_put RX7, .methodLinkNest RX3 (22) yX7_copyRow RX7, .methodLinkNest RX4 (19) yX7_copyRow RX7, .methodLinkNest RX2 (19) yX7_at RX7]
theorem nestM_ok : ∀ w ∈ nestW, ∃ a i x h, w = .methodLinkNest a i x h := by
  intro w hw
  simp only [nestW, List.mem_cons, List.not_mem_nil, or_false] at hw
  rcases hw with rfl | rfl | rfl | rfl | rfl | rfl | rfl | rfl | rfl | rfl | rfl | rfl | rfl | rfl | rfl | rfl | rfl | rfl | rfl | rfl | rfl | rfl | rfl <;> exact ⟨_, _, _, _, rfl⟩
def lenS : List Nat := [1, 5, 4, 5, 6, 4, 4, 3, 4, 4, 4, 5, 2]
def bytS : List (List Int32) := [[32], [108, 97, 116, 99, 104], [107, 101, 121, 32], [99, 111, 100, 101, 32], [112, 108, 97, 116, 101, 32], [111, 118, 101, 114], [116, 97, 107, 101], [108, 97, 121], [111, 112, 101, 110], [114, 101, 97, 100], [114, 101, 115, 116], [110, 117, 100, 103, 101], [117, 112]]
def ownS : List String := ["ResetRooms$BoxText", "ResetRooms$BoxText", "ResetRooms$BoxText", "ResetRooms$BoxText", "ResetRooms$BoxText", "ResetRooms$State", "ResetRooms", "ResetRooms", "ResetRooms", "ResetRooms", "ResetRooms", "ResetRooms", "ResetRooms"]
def idxS : List Nat := [29, 52, 54, 56, 58, 159, 188, 203, 210, 234, 242, 253, 267]
def txtS : List String := [" ", "latch", "key ", "code ", "plate ", "over", "take", "lay", "open", "read", "rest", "nudge", "up"]
/-- beside the world of the class: the links of nest mates, the texts of the words, two statics -/
def ExX (ad sK sV : Nat → Nat) (U : State) : Prop := (∀ w ∈ nestW, va_Nw w U) ∧ (∀ j, j < 13 → vk_R (ownS.getD j "") (idxS.getD j 0) (txtS.getD j "") (sK j) U) ∧ vk_S 13 lenS bytS sK sV (AW 78 ad) U U.heap ∧ va_Z "java/lang/String" "COMPACT_STRINGS" "Z" (.int 1) (AW 78 ad) U U.heap ∧ (∃ fv : Value, (fv = .null ∨ ∃ t, fv = .ref t) ∧ va_Z "jdk/internal/util/Preconditions" "SIOOBE_FORMATTER" "Ljava/util/function/BiFunction;" fv (AW 78 ad) U U.heap)
theorem ExX.ok (ad sK sV : Nat → Nat) : ExOK (ExX ad sK sV) 78 ad := by
  refine ⟨fun U g mk a h => ?_, fun s U H locs h hS hU hW => ?_⟩
  · refine ⟨fun w hw => ?_, fun j hj => vk_R.same rfl (h.2.1 j hj), vk_S.moved (Vm.Alike.refl U.vm) h.2.2.1, va_Z.moved (Vm.Alike.refl U.vm) h.2.2.2.1, h.2.2.2.2.elim fun fv q => ⟨fv, q.1, va_Z.moved (Vm.Alike.refl U.vm) q.2⟩⟩
    obtain ⟨a, i, x, hh, rfl⟩ := nestM_ok w hw
    exact va_Nw.same rfl rfl (h.1 _ hw)
  · subst hU
    refine ⟨fun w hw => ?_, fun j hj => vk_R.warm hW (h.2.1 j hj), vk_S.moved hW.alike (vk_S.kept h.2.2.1 hS.2.1), va_Z.moved hW.alike (va_Z.kept h.2.2.2.1 hS.2.1), h.2.2.2.2.elim fun fv q => ⟨fv, q.1, va_Z.moved hW.alike (va_Z.kept q.2 hS.2.1)⟩⟩
    obtain ⟨a, i, x, hh, rfl⟩ := nestM_ok w hw
    exact va_Nw.warmM hW (h.1 _ hw)
def ExR (_ : State) : Prop := True
theorem ExR.ok (N : Nat) (ad : Nat → Nat) : ExOK ExR N ad := ⟨fun _ _ _ _ _ => trivial, fun _ _ _ _ _ _ _ _ => trivial⟩
abbrev XI (G : va_G) (ad sK sV : Nat → Nat) (cA cZ cC : ClassId) (y : MethodName) (b : ByteArray) (n : Nat) (ty : FieldType) (rm : Room) (av : List Value) (M : Mem) (v : Int32) (M' : Mem) : Prop := CI G (TY cA cZ cC) (ExX ad sK sV) 78 (shX cA ad) ad y b n ty rm av M v M'
abbrev XV (G : va_G) (ad sK sV : Nat → Nat) (cA cZ cC : ClassId) (y : MethodName) (b : ByteArray) (n : Nat) (rm : Room) (av : List Value) (M : Mem) (M' : Mem) : Prop := CV G (TY cA cZ cC) (ExX ad sK sV) 78 (shX cA ad) ad y b n rm av M M'
def thn {α β : Type} (x : α) (f : α → β) : β := f x
theorem thn_ex {α β : Type} {x : α} {f : α → β} {r : β} (h : thn x f = r) : ∃ y, x = y ∧ f y = r := ⟨x, rfl, h⟩
def bnd {α β : Type} (x : Option α) (f : α → Option β) : Option β := match x with
  | none => none
  | some y => f y
theorem bnd_ex {α β : Type} {x : Option α} {f : α → Option β} {r : β} (h : bnd x f = some r) : ∃ y, x = some y ∧ f y = some r := by
  cases x with
  | none => cases h
  | some y => exact ⟨y, rfl, h⟩
theorem ite_some {α : Type} {c : Prop} [Decidable c] {A : Option α} {r : α} (h : (if c then A else none) = some r) : c ∧ A = some r := by
  by_cases hc : c
  · rw [if_pos hc] at h; exact ⟨hc, h⟩
  · rw [if_neg hc] at h; cases h
def inb (i : Int32) (n : Nat) : Bool := !decide (i < 0) && decide (i.toNatClampNeg < n)
theorem inb_in {i : Int32} {n : Nat} (h : inb i n = true) : vp_in i n := by
  simp only [inb, Bool.and_eq_true, Bool.not_eq_true', decide_eq_false_iff_not, decide_eq_true_eq] at h
  intro q
  rcases q with q | q
  · exact h.1 q
  · omega
