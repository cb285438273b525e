/-! the law's loop, over what holds between two events -/
theorem nI_mul (a b : Nat) : nI a * nI b = nI (a * b) := (Int32.ofNat_mul a b).symm
section LL
variable {G : va_G} {sK sV : Nat → Nat} {cA cZ cC : ClassId} {ax : Nat → Nat} {L b : Nat} {xs : Nat → Int32}
variable {p : Program} {l : Launch} {e : Env} {s : State} {m : MethodId} {below : List Frame} {meth : Method} {c : Code}
/-- one event of the law, told by the pure functions -/
def Ev1 (k : Nat) (X : Mem) (g h : Int32) (X' : Mem) : Prop :=
  (k < 7 ∧ fL_build X g h = some (1, X')) ∨ (¬ k < 7 ∧ fX7_count X 14 = some 1 ∧ fL_acts X g h = some (1, X')) ∨ (¬ k < 7 ∧ (∃ v, fX7_count X 14 = some v ∧ v ≠ 1) ∧ fL_between X g h = some (1, X'))
/-- what the pure side owes: an invariant that each event keeps, and that the law's looks find in order -/
def Owed (Inv : Nat → Mem → Prop) : Prop :=
  (Inv 0 exX ∧ fX7_nextStep exX = some (-4) ∧ fX7_plan exX 1 = some (-4, exX)) ∧
  (∀ k X g h, k < 34 → Inv k X → ∃ X', Ev1 k X g h X' ∧ Inv (k + 1) X' ∧ fL_boxes X' = some 1 ∧ fL_clues X' = some 1 ∧ fL_groups X' = some 1 ∧ fL_log X' = some 1) ∧
  (∀ X, Inv 34 X → ∃ X', fL_errors X = some (1, X'))
theorem law_tail (E : LE G sK sV cA cZ cC ax p s m #[Value.ref b] meth c b L xs) {k : Nat} {X : Mem} {H : Heap} {locs : List Loc} {ls : Array Slot} (hk : k < 34) (hl : lv_has ls 6 [(0, .ref b), (1, .ref (ax 0)), (2, .int (nI k))]) (h : LW G cA cZ cC ax X s H locs) (q1 : fL_boxes X = some 1) (q2 : fL_clues X = some 1) (q3 : fL_groups X = some 1) (q4 : fL_log X = some 1)
    (next : ∀ H1 locs1 ls1, lv_has ls1 6 [(2, .int (nI (k + 1))), (1, .ref (ax 0)), (0, .ref b)] → LW G cA cZ cC ax X s H1 locs1 → W p l e room_1 s m #[Value.ref b] below meth c H1 locs1 78 7612 (lw_Z below #[Value.ref b] s) (F0 m 31 ls1 [])) : W p l e room_1 s m #[Value.ref b] below meth c H locs 78 7612 (lw_Z below #[Value.ref b] s) (F0 m 99 ls [.int 1]) := by
  have hx := E.1.1
  have hb := E.1.2.1
  refine lv_istore (pc := 99) (lv' := [(5, .int 1), (2, .int (nI k)), (1, .ref (ax 0)), (0, .ref b)]) hx hb dL_law_99 (lv_sub hl [2, 1, 0] rfl) (by decide) rfl (fun ls hl => ?_)
  refine lv_iload (pc := 101) hx hb dL_law_101 (lv_at hl 0 rfl) ?_
  refine lv_if_eq (pc := 103) (tgt := 134) hx hb dL_law_103 (by decide) (fun z => absurd z (by decide)) (fun _ => ?_)
  refine lv_aload_n (pc := 106) hx hb dL_law_106 rfl (lv_at hl 2 rfl) ?_
  refine ls_call (na := 1) (pc := 107) (As := [.ref (ax 0)]) (rest := []) E hl.1 h ⟨Nat.le_of_ble_eq_true rfl, Nat.le_of_ble_eq_true rfl⟩ (kL_boxes E.2.2.1 X 1 q1) (gS q444 q445 q16 q446) (by decide +kernel) rfl ⟨Nat.le_of_ble_eq_true rfl, Nat.le_of_ble_eq_true rfl⟩ ⟨rfl, rfl⟩ dL_law_107 rfl (Nat.le_of_ble_eq_true rfl) (fun H locs h => ?_)
  refine lv_if_eq (pc := 110) (tgt := 134) hx hb dL_law_110 (by decide) (fun z => absurd z (by decide)) (fun _ => ?_)
  refine lv_aload_n (pc := 113) hx hb dL_law_113 rfl (lv_at hl 2 rfl) ?_
  refine ls_call (na := 1) (pc := 114) (As := [.ref (ax 0)]) (rest := []) E hl.1 h ⟨Nat.le_of_ble_eq_true rfl, Nat.le_of_ble_eq_true rfl⟩ (kL_clues E.2.2.1 X 1 q2) (gS q543 q544 q16 q545) (by decide +kernel) rfl ⟨Nat.le_of_ble_eq_true rfl, Nat.le_of_ble_eq_true rfl⟩ ⟨rfl, rfl⟩ dL_law_114 rfl (Nat.le_of_ble_eq_true rfl) (fun H locs h => ?_)
  refine lv_if_eq (pc := 117) (tgt := 134) hx hb dL_law_117 (by decide) (fun z => absurd z (by decide)) (fun _ => ?_)
  refine lv_aload_n (pc := 120) hx hb dL_law_120 rfl (lv_at hl 2 rfl) ?_
  refine ls_call (na := 1) (pc := 121) (As := [.ref (ax 0)]) (rest := []) E hl.1 h ⟨Nat.le_of_ble_eq_true rfl, Nat.le_of_ble_eq_true rfl⟩ (kL_groups E.2.2.1 X 1 q3) (gS q559 q560 q16 q561) (by decide +kernel) rfl ⟨Nat.le_of_ble_eq_true rfl, Nat.le_of_ble_eq_true rfl⟩ ⟨rfl, rfl⟩ dL_law_121 rfl (Nat.le_of_ble_eq_true rfl) (fun H locs h => ?_)
  refine lv_if_eq (pc := 124) (tgt := 134) hx hb dL_law_124 (by decide) (fun z => absurd z (by decide)) (fun _ => ?_)
  refine lv_aload_n (pc := 127) hx hb dL_law_127 rfl (lv_at hl 2 rfl) ?_
  refine ls_call (na := 1) (pc := 128) (As := [.ref (ax 0)]) (rest := []) E hl.1 h ⟨Nat.le_of_ble_eq_true rfl, Nat.le_of_ble_eq_true rfl⟩ (kL_log E.2.2.1 X 1 q4) (gS q887 q888 q16 q889) (by decide +kernel) rfl ⟨Nat.le_of_ble_eq_true rfl, Nat.le_of_ble_eq_true rfl⟩ ⟨rfl, rfl⟩ dL_law_128 rfl (Nat.le_of_ble_eq_true rfl) (fun H locs h => ?_)
  refine lv_if_ne (pc := 131) (tgt := 136) hx hb dL_law_131 (by decide) (fun _ => ?_) (fun z => absurd z (by decide))
  refine lv_iinc (pc := 136) (k := 1) (v := nI (k + 1)) (lv' := [(2, .int (nI (k + 1))), (5, .int 1), (1, .ref (ax 0)), (0, .ref b)]) hx hb dL_law_136 hl rfl (by rw [show Int32.ofInt 1 = nI 1 from rfl, nI_add]) (by decide) rfl (fun ls hl => ?_)
  refine lv_goto (pc := 139) (tgt := 31) hx hb dL_law_139 (by decide) ?_
  exact next H locs ls (lv_sub hl [0, 2, 3] rfl) h
theorem law_loop {Inv : Nat → Mem → Prop} (O : Owed Inv) (hL : L ≤ 260) (E : LE G sK sV cA cZ cC ax p s m #[Value.ref b] meth c b L xs) : ∀ (d k : Nat) (X : Mem) (H : Heap) (locs : List Loc) (ls : Array Slot), k + d = 34 → Inv k X → LW G cA cZ cC ax X s H locs → lv_has ls 6 [(2, .int (nI k)), (1, .ref (ax 0)), (0, .ref b)] → W p l e room_1 s m #[Value.ref b] below meth c H locs 78 7612 (lw_Z below #[Value.ref b] s) (F0 m 31 ls []) := by
  intro d
  induction d with
  | zero =>
    intro k X H locs ls hk hI h hl
    obtain rfl : k = 34 := by omega
    have hx := E.1.1
    have hb := E.1.2.1
    obtain ⟨X', hE⟩ := O.2.2 X hI
    refine lv_iload_n (pc := 31) hx hb dL_law_31 rfl (lv_at hl 0 rfl) ?_
    refine lv_bipush (v := 34) (pc := 32) hx hb dL_law_32 (by decide) ?_
    refine lv_icmp_ge (pc := 34) (tgt := 142) hx hb dL_law_34 (by decide) (fun _ => ?_) (fun z => absurd (by decide) z)
    refine lv_aload_n (pc := 142) hx hb dL_law_142 rfl (lv_at hl 1 rfl) ?_
    refine ls_call (na := 1) (pc := 143) (As := [.ref (ax 0)]) (rest := []) E hl.1 h ⟨Nat.le_of_ble_eq_true rfl, Nat.le_of_ble_eq_true rfl⟩ (kL_errors E.2.2.1 X 1 X' hE) (gS q894 q895 q16 q896) (by decide +kernel) rfl ⟨Nat.le_of_ble_eq_true rfl, Nat.le_of_ble_eq_true rfl⟩ ⟨rfl, rfl⟩ dL_law_143 rfl (Nat.le_of_ble_eq_true rfl) (fun H locs h => ?_)
    exact va_forget (fun q hq => h.2.2.2 q hq) (lw_ret (pc := 146) hx hb E.1.2.2.2.1 E.1.2.2.2.2.1 dL_law_146)
  | succ d ih =>
    intro k X H locs ls hk hI h hl
    have hx := E.1.1
    have hb := E.1.2.1
    obtain ⟨X', hev, hI', q1, q2, q3, q4⟩ := O.2.1 k X (cellV xs L (2 * k)) (cellV xs L (2 * k + 1)) (by omega) hI
    generalize hg : cellV xs L (2 * k) = g at hev
    generalize hh : cellV xs L (2 * k + 1) = hw at hev
    refine lv_iload_n (pc := 31) hx hb dL_law_31 rfl (lv_at hl 0 rfl) ?_
    refine lv_bipush (v := 34) (pc := 32) hx hb dL_law_32 (by decide) ?_
    refine lv_icmp_ge (pc := 34) (tgt := 142) hx hb dL_law_34 (by decide) (fun z => absurd z (k34 (by omega))) (fun _ => ?_)
    refine lv_aload_n (pc := 37) hx hb dL_law_37 rfl (lv_at hl 2 rfl) ?_
    refine lv_iconst (v := 2) (pc := 38) hx hb dL_law_38 (by decide) ?_
    refine lv_iload_n (pc := 39) hx hb dL_law_39 rfl (lv_at hl 0 rfl) ?_
    refine lv_imul (pc := 40) hx hb dL_law_40 ?_
    rw [show (2 : Int32) = nI 2 from rfl, nI_mul]
    refine lc_call (pc := 41) (rest := []) E hl.1 h ⟨Nat.le_of_ble_eq_true rfl, Nat.le_of_ble_eq_true rfl⟩ hL (show 2 * k < 100 by omega) dL_law_41 (Nat.le_of_ble_eq_true rfl) (fun H locs h => ?_)
    rw [hg]
    refine lv_istore_n (pc := 44) (lv' := [(3, .int g), (2, .int (nI k)), (1, .ref (ax 0)), (0, .ref b)]) hx hb dL_law_44 rfl hl (by decide) rfl (fun ls hl => ?_)
    refine lv_aload_n (pc := 45) hx hb dL_law_45 rfl (lv_at hl 3 rfl) ?_
    refine lv_iconst (v := 2) (pc := 46) hx hb dL_law_46 (by decide) ?_
    refine lv_iload_n (pc := 47) hx hb dL_law_47 rfl (lv_at hl 1 rfl) ?_
    refine lv_imul (pc := 48) hx hb dL_law_48 ?_
    refine lv_iconst (v := 1) (pc := 49) hx hb dL_law_49 (by decide) ?_
    refine lv_iadd (pc := 50) hx hb dL_law_50 ?_
    rw [show (2 : Int32) = nI 2 from rfl, nI_mul, show (1 : Int32) = nI 1 from rfl, nI_add]
    refine lc_call (pc := 51) (rest := []) E hl.1 h ⟨Nat.le_of_ble_eq_true rfl, Nat.le_of_ble_eq_true rfl⟩ hL (show 2 * k + 1 < 100 by omega) dL_law_51 (Nat.le_of_ble_eq_true rfl) (fun H locs h => ?_)
    rw [hh]
    refine lv_istore (pc := 54) (lv' := [(4, .int hw), (3, .int g), (2, .int (nI k)), (1, .ref (ax 0)), (0, .ref b)]) hx hb dL_law_54 hl (by decide) rfl (fun ls hl => ?_)
    have tail : ∀ H locs, LW G cA cZ cC ax X' s H locs → W p l e room_1 s m #[Value.ref b] below meth c H locs 78 7612 (lw_Z below #[Value.ref b] s) (F0 m 99 ls [.int 1]) := fun H locs h => law_tail E (by omega) (lv_sub hl [4, 3, 2] rfl) h q1 q2 q3 q4 (fun H1 locs1 ls1 hl1 h1 => ih (k + 1) X' H1 locs1 ls1 (by omega) hI' h1 hl1)
    refine lv_iload_n (pc := 56) hx hb dL_law_56 rfl (lv_at hl 2 rfl) ?_
    refine lv_bipush (v := 7) (pc := 57) hx hb dL_law_57 (by decide) ?_
    have k7 := lt7 (k := k) (by omega)
    rcases hev with ⟨hk7, hev⟩ | ⟨hk7, hcn, hev⟩ | ⟨hk7, ⟨v, hcn, hv⟩, hev⟩
    · refine lv_icmp_ge (pc := 59) (tgt := 72) hx hb dL_law_59 (by decide) (fun z => absurd hk7 (k7.mp z)) (fun _ => ?_)
      refine lv_aload_n (pc := 62) hx hb dL_law_62 rfl (lv_at hl 3 rfl) ?_
      refine lv_iload_n (pc := 63) hx hb dL_law_63 rfl (lv_at hl 1 rfl) ?_
      refine lv_iload (pc := 64) hx hb dL_law_64 (lv_at hl 0 rfl) ?_
      refine ls_call (na := 3) (pc := 66) (As := [.ref (ax 0), .int g, .int hw]) (rest := []) E hl.1 h ⟨Nat.le_of_ble_eq_true rfl, Nat.le_of_ble_eq_true rfl⟩ (kL_build E.2.2.1 X g hw 1 X' hev) (gS q583 q584 q16 q585) (by decide +kernel) rfl ⟨Nat.le_of_ble_eq_true rfl, Nat.le_of_ble_eq_true rfl⟩ ⟨rfl, rfl⟩ dL_law_66 rfl (Nat.le_of_ble_eq_true rfl) (fun H locs h => ?_)
      refine lv_goto (pc := 69) (tgt := 99) hx hb dL_law_69 (by decide) ?_
      exact tail H locs h
    · refine lv_icmp_ge (pc := 59) (tgt := 72) hx hb dL_law_59 (by decide) (fun _ => ?_) (fun z => absurd (k7.mpr hk7) z)
      refine lv_aload_n (pc := 72) hx hb dL_law_72 rfl (lv_at hl 3 rfl) ?_
      refine lv_bipush (v := 14) (pc := 73) hx hb dL_law_73 (by decide) ?_
      refine lx_call (na := 1) (pc := 75) (As := [.int 14]) (rest := []) E hl.1 h ⟨Nat.le_of_ble_eq_true rfl, Nat.le_of_ble_eq_true rfl⟩ (kX7_count E.2.2.1 X 14 1 hcn) (gV q423 q424 q425 q17 q426) (by decide +kernel) rfl ⟨Nat.le_of_ble_eq_true rfl, Nat.le_of_ble_eq_true rfl⟩ ⟨rfl, rfl⟩ dL_law_75 rfl (Nat.le_of_ble_eq_true rfl) (fun H locs h => ?_)
      refine lv_iconst (v := 1) (pc := 78) hx hb dL_law_78 (by decide) ?_
      refine lv_icmp_ne (pc := 79) (tgt := 92) hx hb dL_law_79 (by decide) (fun z => absurd rfl z) (fun _ => ?_)
      refine lv_aload_n (pc := 82) hx hb dL_law_82 rfl (lv_at hl 3 rfl) ?_
      refine lv_iload_n (pc := 83) hx hb dL_law_83 rfl (lv_at hl 1 rfl) ?_
      refine lv_iload (pc := 84) hx hb dL_law_84 (lv_at hl 0 rfl) ?_
      refine ls_call (na := 3) (pc := 86) (As := [.ref (ax 0), .int g, .int hw]) (rest := []) E hl.1 h ⟨Nat.le_of_ble_eq_true rfl, Nat.le_of_ble_eq_true rfl⟩ (kL_acts E.2.2.1 X g hw 1 X' hev) (gS q705 q706 q16 q707) (by decide +kernel) rfl ⟨Nat.le_of_ble_eq_true rfl, Nat.le_of_ble_eq_true rfl⟩ ⟨rfl, rfl⟩ dL_law_86 rfl (Nat.le_of_ble_eq_true rfl) (fun H locs h => ?_)
      refine lv_goto (pc := 89) (tgt := 99) hx hb dL_law_89 (by decide) ?_
      exact tail H locs h
    · refine lv_icmp_ge (pc := 59) (tgt := 72) hx hb dL_law_59 (by decide) (fun _ => ?_) (fun z => absurd (k7.mpr hk7) z)
      refine lv_aload_n (pc := 72) hx hb dL_law_72 rfl (lv_at hl 3 rfl) ?_
      refine lv_bipush (v := 14) (pc := 73) hx hb dL_law_73 (by decide) ?_
      refine lx_call (na := 1) (pc := 75) (As := [.int 14]) (rest := []) E hl.1 h ⟨Nat.le_of_ble_eq_true rfl, Nat.le_of_ble_eq_true rfl⟩ (kX7_count E.2.2.1 X 14 v hcn) (gV q423 q424 q425 q17 q426) (by decide +kernel) rfl ⟨Nat.le_of_ble_eq_true rfl, Nat.le_of_ble_eq_true rfl⟩ ⟨rfl, rfl⟩ dL_law_75 rfl (Nat.le_of_ble_eq_true rfl) (fun H locs h => ?_)
      refine lv_iconst (v := 1) (pc := 78) hx hb dL_law_78 (by decide) ?_
      refine lv_icmp_ne (pc := 79) (tgt := 92) hx hb dL_law_79 (by decide) (fun _ => ?_) (fun z => absurd z hv)
      refine lv_aload_n (pc := 92) hx hb dL_law_92 rfl (lv_at hl 3 rfl) ?_
      refine lv_iload_n (pc := 93) hx hb dL_law_93 rfl (lv_at hl 1 rfl) ?_
      refine lv_iload (pc := 94) hx hb dL_law_94 (lv_at hl 0 rfl) ?_
      refine ls_call (na := 3) (pc := 96) (As := [.ref (ax 0), .int g, .int hw]) (rest := []) E hl.1 h ⟨Nat.le_of_ble_eq_true rfl, Nat.le_of_ble_eq_true rfl⟩ (kL_between E.2.2.1 X g hw 1 X' hev) (gS q824 q825 q16 q826) (by decide +kernel) rfl ⟨Nat.le_of_ble_eq_true rfl, Nat.le_of_ble_eq_true rfl⟩ ⟨rfl, rfl⟩ dL_law_96 rfl (Nat.le_of_ble_eq_true rfl) (fun H locs h => ?_)
      exact tail H locs h
end LL
