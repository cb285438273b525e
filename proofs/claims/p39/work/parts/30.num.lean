/-! numbers: an int is zI of an integer -/
def zI (a : Int) : Int32 := Int32.ofInt a
theorem zadd (a b : Int) : zI a + zI b = zI (a + b) := (Int32.ofInt_add a b).symm
theorem zsub (a b : Int) : zI a - zI b = zI (a - b) := (Int32.ofInt_sub a b).symm
theorem zmul (a b : Int) : zI a * zI b = zI (a * b) := (Int32.ofInt_mul a b).symm
theorem zneg (a : Int) : - zI a = zI (-a) := (Int32.ofInt_neg a).symm
theorem zlit (n : Nat) : (@OfNat.ofNat Int32 n Int32.instOfNat) = zI (@OfNat.ofNat Int n instOfNat) := (Int32.ofInt_eq_ofNat (n := n)).symm
theorem znat (n : Nat) : Int32.ofNat n = zI (n : Int) := (Int32.ofInt_eq_ofNat (n := n)).symm
theorem zto {a : Int} (h1 : -2147483648 ≤ a) (h2 : a ≤ 2147483647) : (zI a).toInt = a := Int32.toInt_ofInt_of_le h1 (by omega)
theorem zof (x : Int32) : ∃ a : Int, -2147483648 ≤ a ∧ a ≤ 2147483647 ∧ x = zI a := ⟨x.toInt, Int32.le_toInt x, by have := Int32.toInt_lt x; omega, by unfold zI; rw [Int32.ofInt_toInt]⟩
theorem zle {a b : Int} (h1 : -2147483648 ≤ a) (h2 : a ≤ 2147483647) (h3 : -2147483648 ≤ b) (h4 : b ≤ 2147483647) : (zI a ≤ zI b) = (a ≤ b) := by rw [Int32.le_iff_toInt_le, zto h1 h2, zto h3 h4]
theorem zlt {a b : Int} (h1 : -2147483648 ≤ a) (h2 : a ≤ 2147483647) (h3 : -2147483648 ≤ b) (h4 : b ≤ 2147483647) : (zI a < zI b) = (a < b) := by rw [Int32.lt_iff_toInt_lt, zto h1 h2, zto h3 h4]
theorem zeq {a b : Int} (h1 : -2147483648 ≤ a) (h2 : a ≤ 2147483647) (h3 : -2147483648 ≤ b) (h4 : b ≤ 2147483647) : (zI a = zI b) = (a = b) := by
  apply propext
  constructor
  · intro h
    have := congrArg Int32.toInt h
    rwa [zto h1 h2, zto h3 h4] at this
  · intro h; rw [h]
theorem ztn {a : Int} (h1 : -2147483648 ≤ a) (h2 : a ≤ 2147483647) : (zI a).toNatClampNeg = a.toNat := by
  show (zI a).toInt.toNat = _
  rw [zto h1 h2]
theorem zinb {a : Int} {n : Nat} (h1 : -2147483648 ≤ a) (h2 : a ≤ 2147483647) : (inb (zI a) n = true) = (0 ≤ a ∧ a < n) := by
  have h0 : (zI a < 0) = (a < 0) := by rw [show (0 : Int32) = zI 0 from rfl, zlt h1 h2 (by omega) (by omega)]
  simp only [inb, h0, ztn h1 h2, Bool.and_eq_true, Bool.not_eq_true', decide_eq_false_iff_not, decide_eq_true_eq, eq_iff_iff]
  omega
theorem zdiv {a b : Int} (h1 : 0 ≤ a) (h2 : a ≤ 2147483647) (h3 : 0 < b) (h4 : b ≤ 2147483647) : zI a / zI b = zI (a / b) := by
  apply Int32.toInt_inj.mp
  rw [Int32.toInt_div, zto (by omega) h2, zto (by omega) h4, Int.tdiv_eq_ediv_of_nonneg h1]
  have h5 : 0 ≤ a / b := Int.ediv_nonneg h1 (by omega)
  have h6 : a / b ≤ a := Int.ediv_le_self b h1
  rw [zto (by omega) (by omega)]
  exact Int.bmod_eq_of_le (by omega) (by omega)
theorem zirm {a b : Int} (h1 : 0 ≤ a) (h2 : a ≤ 2147483647) (h3 : 0 < b) (h4 : b ≤ 2147483647) : irm (zI a) (zI b) = zI (a % b) := by
  unfold irm
  rw [zdiv h1 h2 h3 h4, zmul, zsub]
  congr 1
  have := Int.emod_def a b
  rw [this, Int.mul_comm]
theorem zbz {a : Int} (h : a = 0 ∨ a = 1) : bz (zI a) = zI a := by
  rcases h with rfl | rfl
  · exact bz0
  · exact bz1
theorem zmx {a b : Int} (h1 : -2147483648 ≤ a) (h2 : a ≤ 2147483647) (h3 : -2147483648 ≤ b) (h4 : b ≤ 2147483647) : mxi (zI a) (zI b) = zI (max a b) := by
  unfold mxi
  simp only [zlt h1 h2 h3 h4]
  split
  · rw [Int.max_eq_right (by omega)]
  · rw [Int.max_eq_left (by omega)]
def enc (σ : Nat → Int) : Nat → Int32 := fun j => zI (σ j)
def us (σ : Nat → Int) (j : Nat) (v : Int) : Nat → Int := fun i => if i = j then v else σ i
theorem enc_us (σ : Nat → Int) (j : Nat) (v : Int) : upd (enc σ) j (zI v) = enc (us σ j v) := by
  funext i
  by_cases h : i = j <;> simp [upd, enc, us, h]
theorem us_at (σ : Nat → Int) (j : Nat) (v : Int) : us σ j v j = v := by simp [us]
theorem us_ne (σ : Nat → Int) {i j : Nat} (v : Int) (h : i ≠ j) : us σ j v i = σ i := by simp [us, h]
theorem setR_at (M : Mem) (k : Nat) (row : Nat → Int32) : setR M k row k = row := by simp [setR]
theorem setR_ne (M : Mem) {k j : Nat} (row : Nat → Int32) (h : j ≠ k) : setR M k row j = M j := by simp [setR, h]
theorem wr_at (M : Mem) (k i : Nat) (v : Int32) : wr M k i v k i = v := by simp [wr, setR, upd]
theorem wr_k (M : Mem) {k k' : Nat} (i : Nat) (v : Int32) (h : k' ≠ k) : wr M k i v k' = M k' := by simp [wr, setR, h]
theorem wr_i (M : Mem) (k : Nat) {i i' : Nat} (v : Int32) (h : i' ≠ i) : wr M k i v k i' = M k i' := by simp [wr, setR, upd, h]
theorem bnd_some {α β : Type} (x : α) (f : α → Option β) : bnd (some x) f = f x := rfl
theorem thn_eq {α β : Type} (x : α) (f : α → β) : thn x f = f x := rfl
theorem zinbT {a : Int} {n : Nat} (h1 : 0 ≤ a) (h2 : a < (n : Int)) (h3 : a ≤ 2147483647) : (inb (zI a) n = true) = True := by
  rw [zinb (by omega) h3]
  exact eq_true ⟨h1, h2⟩
theorem zc0 : (0 : Int32) = zI 0 := rfl
theorem zc1 : (1 : Int32) = zI 1 := rfl
theorem zc2 : (2 : Int32) = zI 2 := rfl
theorem zc3 : (3 : Int32) = zI 3 := rfl
theorem zc4 : (4 : Int32) = zI 4 := rfl
theorem zc5 : (5 : Int32) = zI 5 := rfl
theorem zc6 : (6 : Int32) = zI 6 := rfl
theorem zc7 : (7 : Int32) = zI 7 := rfl
theorem zc8 : (8 : Int32) = zI 8 := rfl
theorem zc9 : (9 : Int32) = zI 9 := rfl
theorem zc10 : (10 : Int32) = zI 10 := rfl
theorem zc12 : (12 : Int32) = zI 12 := rfl
theorem zc20 : (20 : Int32) = zI 20 := rfl
theorem zc24 : (24 : Int32) = zI 24 := rfl
theorem zc30 : (30 : Int32) = zI 30 := rfl
theorem zc32 : (32 : Int32) = zI 32 := rfl
theorem zc44 : (44 : Int32) = zI 44 := rfl
theorem zc47 : (47 : Int32) = zI 47 := rfl
theorem zc48 : (48 : Int32) = zI 48 := rfl
theorem zc56 : (56 : Int32) = zI 56 := rfl
theorem zc57 : (57 : Int32) = zI 57 := rfl
theorem zc58 : (58 : Int32) = zI 58 := rfl
theorem zc60 : (60 : Int32) = zI 60 := rfl
theorem zc68 : (68 : Int32) = zI 68 := rfl
theorem zc80 : (80 : Int32) = zI 80 := rfl
theorem zc100 : (100 : Int32) = zI 100 := rfl
theorem zc104 : (104 : Int32) = zI 104 := rfl
theorem zc120 : (120 : Int32) = zI 120 := rfl
theorem zc128 : (128 : Int32) = zI 128 := rfl
theorem zc140 : (140 : Int32) = zI 140 := rfl
theorem zc152 : (152 : Int32) = zI 152 := rfl
theorem zc164 : (164 : Int32) = zI 164 := rfl
theorem zc176 : (176 : Int32) = zI 176 := rfl
theorem zc184 : (184 : Int32) = zI 184 := rfl
theorem zc192 : (192 : Int32) = zI 192 := rfl
theorem zc200 : (200 : Int32) = zI 200 := rfl
theorem zc300 : (300 : Int32) = zI 300 := rfl
theorem zc400 : (400 : Int32) = zI 400 := rfl
theorem zc402 : (402 : Int32) = zI 402 := rfl
theorem zc500 : (500 : Int32) = zI 500 := rfl
theorem zc503 : (503 : Int32) = zI 503 := rfl
theorem zc902 : (902 : Int32) = zI 902 := rfl
theorem zc1000 : (1000 : Int32) = zI 1000 := rfl
theorem zc100000 : (100000 : Int32) = zI 100000 := rfl
theorem zm1 : (-1 : Int32) = zI (-1) := rfl
theorem zm2 : (-2 : Int32) = zI (-2) := rfl
theorem zm3 : (-3 : Int32) = zI (-3) := rfl
theorem zm4 : (-4 : Int32) = zI (-4) := rfl
theorem zm5 : (-5 : Int32) = zI (-5) := rfl
theorem zm6 : (-6 : Int32) = zI (-6) := rfl
theorem zm10 : (-10 : Int32) = zI (-10) := rfl
theorem zm100 : (-100 : Int32) = zI (-100) := rfl
