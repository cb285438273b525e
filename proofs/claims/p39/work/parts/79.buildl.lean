/-! the law's build -/
theorem and_pos (x : Int32) : ∃ a : Int, 0 ≤ a ∧ a ≤ 2147483647 ∧ x &&& (2147483647 : Int32) = zI a := by
  have h : (x &&& (2147483647 : Int32)).toBitVec.toNat ≤ 2147483647 := by
    rw [Int32.toBitVec_and, BitVec.toNat_and]
    exact Nat.and_le_right
  have h2 : (x &&& (2147483647 : Int32)).toInt = ((x &&& (2147483647 : Int32)).toBitVec.toNat : Int) := by
    show (x &&& (2147483647 : Int32)).toBitVec.toInt = _
    exact BitVec.toInt_eq_toNat_of_lt (by omega)
  exact ⟨_, by omega, by omega, (Int32.ofInt_toInt (x &&& (2147483647 : Int32))).symm⟩
theorem low_n (x : Int32) {m : Int} (hm : 1 ≤ m ∧ m ≤ 2147483647) : ∃ r : Int, (0 ≤ r ∧ r < m) ∧ ∀ M : Mem, fL_low M x (zI m) = some (zI r) := by
  obtain ⟨a, a1, a2, a3⟩ := and_pos x
  refine ⟨a % m, ⟨Int.emod_nonneg _ (by omega), Int.emod_lt_of_pos _ (by omega)⟩, fun M => ?_⟩
  unfold fL_low
  rw [if_pos (show ¬ zI m = 0 by rw [zc0, zeq] <;> omega), a3, zirm a1 a2 (by omega) (by omega)]
section BU
variable {X R : Mem} {σ : Nat → Int} {n : Nat} {B : Int}
theorem b231_n (h : SR X R σ) (hI : Iv n σ) (hJ : J B σ) (c10 : σ 10 = 0) (g x4 : Int32) {b : Int} (hb : 1 ≤ b ∧ b ≤ 100) : ∃ X' R' σ', fL_build_B231 X g x4 (zI b) 1 1 = some (1, X') ∧ SR X' R' σ' ∧ Iv (n + 2) σ' ∧ J B σ' ∧ σ' 10 = 0 := by
  have fin : ∀ M : Mem, fL_build_B293 M 1 1 = some (1, M) := fun M => by
    unfold fL_build_B293
    rw [if_neg (by decide), if_neg (by decide)]
  unfold fL_build_B231
  by_cases c : x4 = 2
  · rw [if_pos c]
    obtain ⟨r, -, r2⟩ := low_n (g >>> ((8 : Int32) &&& 31)) (m := b) (by omega)
    rw [r2, bnd_some]
    obtain ⟨v, X1, R1, σ1, a1, -, a3, -, a5, a6, a7⟩ := addProp_j h hI hJ (zI r)
    rw [a1, bnd_some]
    dsimp only
    obtain ⟨r', -, r4⟩ := low_n g (m := 4) (by omega)
    rw [zc4, r4]
    by_cases c1 : 0 ≤ v
    · rw [if_pos c1, bnd_some]
      obtain ⟨v2, X2, R2, σ2, b1, -, b3, -, b5, b6, b7⟩ := addClue_j a3 a5 a6 v (zI b) (zI r')
      rw [b1, bnd_some]
      exact ⟨X2, R2, σ2, fin X2, b3, b5, b6, by rw [b7, a7, c10]⟩
    · rw [if_neg c1, bnd_some]
      obtain ⟨v2, X2, R2, σ2, b1, -, b3, -, b5, b6, b7⟩ := addClue_j a3 a5 a6 0 (zI b) (zI r')
      rw [b1, bnd_some]
      exact ⟨X2, R2, σ2, fin X2, b3, b5, b6, by rw [b7, a7, c10]⟩
  · rw [if_neg c, zc1, zadd]
    obtain ⟨r, -, r2⟩ := low_n (g >>> ((3 : Int32) &&& 31)) (m := b + 1) (by omega)
    rw [r2, bnd_some]
    obtain ⟨v, X1, R1, σ1, a1, -, a3, -, a5, a6, a7⟩ := addProp_j h hI hJ (zI r)
    rw [a1, bnd_some]
    exact ⟨X1, R1, σ1, fin X1, a3, a5.mono (by omega), a6, by rw [a7, c10]⟩
theorem b205_n (h : SR X R σ) (hI : Iv n σ) (hJ : J B σ) (c10 : σ 10 = 0) (g x4 : Int32) {b : Int} (hb : 1 ≤ b ∧ b ≤ 100) {o : Int} {k : Nat} {v : Int} (ho : 0 ≤ o ∧ o ≤ 11) (hk : k < 4) (hv : 0 ≤ v ∧ (k = 2 → v < 10000) ∧ (k ≠ 2 → v < 100)) (hL : Tx X (txl o k v)) : ∃ X' R' σ', fL_build_B205 X g x4 (zI b) (X 1 1) 1 = some (1, X') ∧ SR X' R' σ' ∧ Iv (n + 2) σ' ∧ J B σ' ∧ σ' 10 = 0 := by
  have hl := txl_b ho hk hv
  obtain ⟨q, a1, a2, a3⟩ := ty hL (by omega) 120
  obtain ⟨X2, b1, b2⟩ := addBoxF_n (h.tx a3) ho hk hv a2
  obtain ⟨X', R', σ', d1, d2⟩ := b231_n b2 hI hJ c10 g x4 hb
  unfold fL_build_B205
  rw [show fX7_type X (120 : Int32) = some q from a1, bnd_some, b1, bnd_some, hL.1]
  dsimp only
  rw [if_pos (show zI (-100 - ((txl o k v).length : Int)) = -100 - zI ((txl o k v).length : Int) by rw [zm100, zsub])]
  exact ⟨X', R', σ', d1, d2⟩
theorem b84_n (h : SR X R σ) (hI : Iv n σ) (hJ : J B σ) (c2 : σ 10 = 0) (g : Int32) {o : Int} {k : Nat} {v : Int} (ho : 0 ≤ o ∧ o < σ 0) (hk : k < 4) (hv : 0 ≤ v ∧ (k = 2 → v < 10000) ∧ (k ≠ 2 → v < 100)) (h13 : k = 1 ∨ k = 3 → v < σ 1) : ∃ X' R' σ', fL_build_B84 X g (zI o) (zI (k : Int)) (zI v) = some (1, X') ∧ SR X' R' σ' ∧ Iv (n + 3) σ' ∧ J B σ' ∧ σ' 10 = 0 := by
  have b0 := hI.1.1
  obtain ⟨X1, a1, a2, a3⟩ := types_n X (b := o) (k := (k : Int)) (by omega) (by omega) (v := v) ⟨hv.1, fun q => hv.2.1 (by omega), fun q => hv.2.2 (by omega)⟩
  unfold fL_build_B84
  rw [a1, bnd_some]
  rcases addBox_n (h.tx a3) hI hJ c2 ho hk hv h13 a2 with ⟨c, X2, d1, d2⟩ | ⟨c, X2, R2, σ2, d1, d2, d3, d4, d5, d6, d7, d8, d9, d10, d11, d12⟩
  · rw [d1, bnd_some]
    dsimp only
    rw [if_pos (show zI (-3) = -3 from rfl), q_c0 d2, bnd_some, c, if_pos (show zI 12 = 12 from rfl)]
    exact ⟨X2, R, σ, rfl, d2, hI.mono (by omega), hJ, c2⟩
  · obtain ⟨b, hb⟩ : ∃ b : Nat, σ 0 = b := ⟨(σ 0).toNat, by omega⟩
    have hbt : (σ 0).toNat = b := by omega
    rw [hbt] at d9 d10 d11 d12
    have hb' : (b : Int) < σ2 0 := by omega
    rw [d1, bnd_some]
    dsimp only
    rw [if_neg (show ¬ zI (σ 0) = -3 by rw [zm3, zeq] <;> omega), q_c11, bnd_some, q_c0 d2, bnd_some, d6, zc1, zsub, if_pos (show zI (σ 0) = zI (σ 0 + 1 - 1) by congr 1; omega), hb, q_box0 d2 d4 hb', bnd_some, if_neg (show ¬ b = 0 by omega), d9, if_pos rfl, show (zI 1 : Int32) = 1 from rfl, q_box1 d2 d4 hb', bnd_some, if_neg (show ¬ b = 0 by omega), d10, if_pos rfl, q_box2 d2 d4 hb', bnd_some, d12, if_pos (show zI 0 = 0 from rfl), q_box6 d2 d4 hb', bnd_some, if_neg (show ¬ b = 0 by omega), d11]
    obtain ⟨X', R', σ', e1, e2, e3, e4⟩ := b205_n d2 d4 d5 d8 g (zI (k : Int)) (b := (b : Int)) (by omega) (by omega) hk hv d3
    by_cases ck : k = 0
    · rw [if_pos (show zI (k : Int) = 0 by rw [ck]; rfl), if_pos ck, if_pos (show zI (-5) = -5 from rfl), e1]
      exact ⟨X', R', σ', rfl, e2, e3, e4⟩
    · rw [if_neg (show ¬ zI (k : Int) = 0 by rw [zc0, zeq] <;> omega), if_neg ck, if_pos rfl, e1]
      exact ⟨X', R', σ', rfl, e2, e3, e4⟩
theorem build_n (h : SR X R σ) (hI : Iv n σ) (hJ : J B σ) (c2 : σ 10 = 0) (f g : Int32) : ∃ X' R' σ', fL_build X f g = some (1, X') ∧ SR X' R' σ' ∧ Iv (n + 3) σ' ∧ J B σ' ∧ σ' 10 = 0 := by
  have b0 := hI.1.1
  obtain ⟨o, o1, o2⟩ := low_n f (m := σ 0) (by omega)
  obtain ⟨k, k1, k2⟩ := low_n (f >>> ((4 : Int32) &&& 31)) (m := 4) (by omega)
  obtain ⟨k, rfl⟩ : ∃ j : Nat, k = j := ⟨k.toNat, by omega⟩
  unfold fL_build
  rw [q_c0 h, bnd_some, o2, bnd_some, show fL_low X (f >>> ((4 : Int32) &&& 31)) (4 : Int32) = some (zI (k : Int)) from k2 X, bnd_some, q_c1 h, bnd_some]
  have go : ∀ k : Nat, k < 4 → (σ 1 = 0 → k = 0 ∨ k = 2) → ∃ X' R' σ', fL_build_B51 X g (zI o) (zI (k : Int)) (zI (σ 1)) = some (1, X') ∧ SR X' R' σ' ∧ Iv (n + 3) σ' ∧ J B σ' ∧ σ' 10 = 0 := by
    intro k hk hk0
    unfold fL_build_B51
    by_cases ck : k = 2
    · obtain ⟨v, v1, v2⟩ := low_n g (m := 10000) (by omega)
      rw [if_pos (show zI (k : Int) = 2 by rw [ck]; rfl), show (10000 : Int32) = zI 10000 from rfl, v2, bnd_some]
      exact b84_n h hI hJ c2 g o1 hk ⟨v1.1, fun _ => v1.2, fun q => absurd ck q⟩ (fun q => by omega)
    · rw [if_neg (show ¬ zI (k : Int) = 2 by rw [zc2, zeq] <;> omega)]
      by_cases cp : σ 1 = 0
      · rw [if_pos (show zI (σ 1) = 0 by rw [cp]; rfl), zc0]
        have := hk0 cp
        exact b84_n h hI hJ c2 g o1 hk ⟨by omega, fun q => absurd q ck, fun _ => by omega⟩ (fun q => by omega)
      · obtain ⟨v, v1, v2⟩ := low_n g (m := σ 1) (by omega)
        rw [if_neg (show ¬ zI (σ 1) = 0 by rw [zc0, zeq] <;> omega), v2, bnd_some]
        exact b84_n h hI hJ c2 g o1 hk ⟨v1.1, fun q => absurd q ck, fun _ => by omega⟩ (fun q => v1.2)
  by_cases cp : σ 1 = 0
  · rw [if_pos (show zI (σ 1) = 0 by rw [cp]; rfl)]
    by_cases c1 : k = 1
    · rw [if_pos (show zI (k : Int) = 1 by rw [c1]; rfl)]
      exact go 2 (by omega) (fun _ => Or.inr rfl)
    · rw [if_neg (show ¬ zI (k : Int) = 1 by rw [zc1, zeq] <;> omega)]
      by_cases c3 : k = 3
      · rw [if_pos (show zI (k : Int) = 3 by rw [c3]; rfl)]
        exact go 2 (by omega) (fun _ => Or.inr rfl)
      · rw [if_neg (show ¬ zI (k : Int) = 3 by rw [zc3, zeq] <;> omega)]
        exact go k (by omega) (fun _ => by omega)
  · rw [if_neg (show ¬ zI (σ 1) = 0 by rw [zc0, zeq] <;> omega)]
    exact go k (by omega) (fun q => absurd q cp)
end BU
