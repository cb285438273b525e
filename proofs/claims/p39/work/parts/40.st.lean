/-! the rest of a state (base t) -/
def so (j : Nat) : Bool := j == 3 || j == 4 || j == 6 || j == 7 || j == 8 || j == 9 || (decide (12 ≤ j) && decide (j < 17)) || (decide (176 ≤ j) && decide (j < 402))
def sk (j : Nat) : Nat := if j = 3 then 13 else if j = 4 then 17 else if j < 10 then 0 else if j < 17 then 16 else if j < 184 then 14 else if j < 192 then 15 else 18
def si (j : Nat) : Nat := if j = 3 then 0 else if j = 4 then 0 else if j = 6 then 7 else if j = 7 then 8 else if j = 8 then 6 else if j = 9 then 5 else if j < 17 then j - 10 else if j < 184 then j - 176 else if j < 192 then j - 184 else j - 192
def su (k i : Nat) : Nat := match k with
  | 13 => 3
  | 17 => 4
  | 0 => if i = 7 then 6 else if i = 8 then 7 else if i = 6 then 8 else 9
  | 16 => i + 10
  | 14 => i + 176
  | 15 => i + 184
  | _ => i + 192
theorem su_ok : ∀ j, j < 402 → so j = true → su (sk j) (si j) = j := by decide +kernel
theorem so_lt {j : Nat} (h : so j = true) : j < 402 := by
  simp [so] at h
  omega
theorem sk_ok : ∀ j, j < 402 → so j = true → (sk j = 0 ∨ (13 ≤ sk j ∧ sk j ≤ 18)) ∧ ro j = false ∧ (sk j = 16 → 2 ≤ si j) := by decide +kernel
theorem so_inj {i j : Nat} (hi : so i = true) (hj : so j = true) (h1 : sk i = sk j) (h2 : si i = si j) : i = j := by
  rw [← su_ok i (so_lt hi) hi, ← su_ok j (so_lt hj) hj, h1, h2]
def Ss (X : Mem) (t : Nat) (σ : Nat → Int) : Prop := ∀ j, so j = true → X (t + sk j) (si j) = zI (σ j)
theorem Ss.wr {X : Mem} {t : Nat} {σ : Nat → Int} (h : Ss X t σ) {j : Nat} (hj : so j = true) (v : Int) : Ss (wr X (t + sk j) (si j) (zI v)) t (us σ j v) := by
  intro i hi
  by_cases hij : i = j
  · subst hij; rw [wr_at, us_at]
  · rw [us_ne σ v hij, ← h i hi]
    by_cases hk : sk i = sk j
    · rw [hk, wr_i]
      intro q
      exact hij (so_inj hi hj hk q)
    · rw [wr_k]
      omega
theorem Ss.frame {X X' : Mem} {t : Nat} {σ σ' : Nat → Int} (h : Ss X t σ) (hX : ∀ k, k = 0 ∨ (13 ≤ k ∧ k ≤ 15) ∨ (17 ≤ k ∧ k ≤ 18) → X' (t + k) = X (t + k)) (hG : ∀ i, 2 ≤ i → X' (t + 16) i = X (t + 16) i) (hs : ∀ j, so j = true → σ' j = σ j) : Ss X' t σ' := by
  intro j hj
  have q := sk_ok j (so_lt hj) hj
  rw [hs j hj, ← h j hj]
  by_cases c : sk j = 16
  · rw [c]; exact hG _ (q.2.2 c)
  · rw [hX _ (by omega)]
/-! the log: a list of codes -/
def LogIs (X : Mem) (l : Nat) (L : List Int) : Prop := X l 0 = zI (L.length : Int) ∧ L.length ≤ 2048 ∧ ∀ i, i < L.length → X (l + 1) i = zI (L.getD i 0)
def dl (v : Int) : List Int := if v < 10 then [48 + v] else if v < 100 then [48 + v / 10, 48 + v % 10] else if v < 1000 then [48 + v / 100, 48 + v / 10 % 10, 48 + v % 10] else if v < 10000 then [48 + v / 1000, 48 + v / 100 % 10, 48 + v / 10 % 10, 48 + v % 10] else [48 + v / 10000, 48 + v / 1000 % 10, 48 + v / 100 % 10, 48 + v / 10 % 10, 48 + v % 10]
def wl (w : Int) : List Int := if w = 0 then [116, 97, 107, 101] else if w = 1 then [108, 97, 121] else if w = 2 then [111, 112, 101, 110] else if w = 3 then [114, 101, 97, 100] else if w = 4 then [110, 117, 100, 103, 101] else if w = 5 then [114, 101, 115, 116] else if w = 6 then [111, 118, 101, 114] else [117, 112]
def wa (w a b : Int) : List Int := if w = 1 then (32 :: dl a) ++ (32 :: dl b) else if w < 6 then 32 :: dl a else []
def sp (m w a b : Int) : List Int := dl m ++ (58 :: wl w) ++ wa w a b ++ [47]
def spE (σ : Nat → Int) (e : Nat) : List Int := sp (σ (402 + 4 * e)) (σ (403 + 4 * e)) (σ (404 + 4 * e)) (σ (405 + 4 * e))
def lgs (σ : Nat → Int) : Nat → List Int
  | 0 => []
  | n + 1 => lgs σ n ++ spE σ n
def Lg (X : Mem) (l : Nat) (σ : Nat → Int) : Prop := LogIs X l (lgs σ (σ 17).toNat)
theorem lgs_c {σ σ' : Nat → Int} : ∀ n, (∀ j, 402 ≤ j → j < 402 + 4 * n → σ' j = σ j) → lgs σ' n = lgs σ n := by
  intro n
  induction n with
  | zero => intro _; rfl
  | succ n ih =>
    intro h
    unfold lgs spE
    rw [ih (fun j h1 h2 => h j h1 (by omega)), h _ (by omega) (by omega), h _ (by omega) (by omega), h _ (by omega) (by omega), h _ (by omega) (by omega)]
theorem Lg.frame {X X' : Mem} {l : Nat} {σ σ' : Nat → Int} (h : Lg X l σ) (h1 : X' l = X l) (h2 : X' (l + 1) = X (l + 1)) (hs : ∀ j, j = 17 ∨ 402 ≤ j → σ' j = σ j) : Lg X' l σ' := by
  unfold Lg LogIs at *
  rw [hs 17 (by omega), lgs_c _ (fun j q _ => hs j (Or.inr q)), h1, h2]
  exact h
theorem Kn.frame {X X' : Mem} {r : Nat} {σ σ' : Nat → Int} (h : Kn X r σ) (h1 : X' (r + 5) = X (r + 5)) (hs : ∀ b, b < 12 → σ' (68 + b) = σ (68 + b)) : Kn X' r σ' := fun b hb => by rw [h1, hs b hb]; exact h b hb
def St (X : Mem) (t : Nat) (σ : Nat → Int) : Prop :=
  Ro X (t + 1) σ ∧ Ss X t σ ∧ X (t + 16) 1 = zI (σ 11) ∧ X (t + 16) 0 = zI (σ 10) ∧ (σ 10 = 1 → Kn X (t + 1) σ) ∧ (σ 10 = 0 → ∀ b, b < 12 → X (t + 6) b = 0) ∧ Lg X (t + 19) σ
/-- both memories hold the state σ -/
def SR (X R : Mem) (σ : Nat → Int) : Prop := St X 3 σ ∧ R 1 = enc σ
/-- what acts leave alone: the class's text and snapshots; the reference's -/
def FX (X X' : Mem) : Prop := ∀ k, k < 3 ∨ (24 ≤ k ∧ k < 66) → X' k = X k
def FR (R R' : Mem) : Prop := (∀ k, 3 ≤ k → k ≤ 5 → R' k = R k) ∧ R' 0 4 = R 0 4
def Fr (X R X' R' : Mem) : Prop := FX X X' ∧ FR R R'
theorem Fr.rf (X R : Mem) : Fr X R X R := ⟨fun _ _ => rfl, fun _ _ _ => rfl, rfl⟩
theorem Fr.trans {X R X' R' X'' R'' : Mem} (h : Fr X R X' R') (h' : Fr X' R' X'' R'') : Fr X R X'' R'' :=
  ⟨fun k q => (h'.1 k q).trans (h.1 k q), fun k q q' => (h'.2.1 k q q').trans (h.2.1 k q q'), h'.2.2.trans h.2.2⟩
theorem Fr.w2 {X R : Mem} (k i j : Nat) (v w : Int32) (hk : 3 ≤ k ∧ k < 24) : Fr X R (wr X k i v) (wr R 1 j w) :=
  ⟨fun q hq => wr_k X i v (by omega), fun q h1 h2 => wr_k R j w (by omega), by rw [wr_k R j w (by omega)]⟩
theorem Fr.wrX {X R : Mem} (k i : Nat) (v : Int32) (hk : 3 ≤ k ∧ k < 24) : Fr X R (wr X k i v) R :=
  ⟨fun q hq => wr_k X i v (by omega), fun _ _ _ => rfl, rfl⟩
theorem Fr.wrR {X R : Mem} (j : Nat) (w : Int32) : Fr X R X (wr R 1 j w) :=
  ⟨fun _ _ => rfl, fun q h1 h2 => wr_k R j w (by omega), by rw [wr_k R j w (by omega)]⟩
theorem Fr.tf {X R R' : Mem} (h : TF R R') : Fr X R X R' := ⟨fun _ _ => rfl, fun q h1 h2 => h.row (by omega), h 0 4 (by omega)⟩
section ST
variable {X R : Mem} {σ : Nat → Int}
theorem ro_so : ∀ j, j < 402 → ro j = true → so j = false ∧ j ≠ 10 ∧ j ≠ 17 ∧ (j < 68 ∨ 80 ≤ j) := by decide +kernel
/-- a number of the room is written on both sides -/
theorem SR.room (h : SR X R σ) {j : Nat} (hj : ro j = true) (hl : j < 32 ∨ 44 ≤ j) (h11 : j ≠ 11) (v : Int) : SR (wr X (4 + rk j) (ri j) (zI v)) (wr R 1 j (zI v)) (us σ j v) ∧ Fr X R (wr X (4 + rk j) (ri j) (zI v)) (wr R 1 j (zI v)) := by
  obtain ⟨⟨hr, hs, h1, h0, hk1, hk0, hg⟩, hR⟩ := h
  have q := rk_ok j (ro_lt hj) hj
  have q2 := ro_so j (by have := ro_lt hj; omega) hj
  have q3 := ro_lt hj
  refine ⟨⟨⟨hr.wr hj hl v, ?_, ?_, ?_, ?_, ?_, ?_⟩, wrR hR j v⟩, Fr.w2 _ _ _ _ _ (by omega)⟩
  · refine hs.frame (fun k hk => wr_k X _ _ (by omega)) (fun i _ => by rw [wr_k X _ _ (by omega)]) (fun i hi => us_ne σ v ?_)
    intro e
    subst e
    rw [q2.1] at hi
    cases hi
  · rw [wr_k X _ _ (by omega), us_ne σ v (Ne.symm h11)]; exact h1
  · rw [wr_k X _ _ (by omega), us_ne σ v (Ne.symm q2.2.1)]; exact h0
  · rw [us_ne σ v (Ne.symm q2.2.1)]
    intro e
    exact (hk1 e).frame (wr_k X _ _ (by omega)) (fun b hb => us_ne σ v (by omega))
  · rw [us_ne σ v (Ne.symm q2.2.1)]
    intro e b hb
    rw [wr_k X _ _ (by omega)]
    exact hk0 e b hb
  · exact hg.frame (wr_k X _ _ (by omega)) (wr_k X _ _ (by omega)) (fun i hi => us_ne σ v (by omega))
/-- another number of the state is written on both sides -/
theorem SR.stat (h : SR X R σ) {j : Nat} (hj : so j = true) (v : Int) : SR (wr X (3 + sk j) (si j) (zI v)) (wr R 1 j (zI v)) (us σ j v) ∧ Fr X R (wr X (3 + sk j) (si j) (zI v)) (wr R 1 j (zI v)) := by
  obtain ⟨⟨hr, hs, h1, h0, hk1, hk0, hg⟩, hR⟩ := h
  have q := sk_ok j (so_lt hj) hj
  have q3 := so_lt hj
  have n10 : j ≠ 10 := by intro e; subst e; exact absurd hj (by decide)
  have n11 : j ≠ 11 := by intro e; subst e; exact absurd hj (by decide)
  have n17 : j ≠ 17 := by intro e; subst e; exact absurd hj (by decide)
  have nro : ∀ i, ro i = true → i ≠ j := by
    intro i hi e
    subst e
    rw [q.2.1] at hi
    cases hi
  have nk : ∀ b, b < 12 → 68 + b ≠ j := by
    intro b hb e
    subst e
    simp [so] at hj
    omega
  refine ⟨⟨⟨?_, hs.wr hj v, ?_, ?_, ?_, ?_, ?_⟩, wrR hR j v⟩, Fr.w2 _ _ _ _ _ (by omega)⟩
  · refine hr.frame (fun k hk _ => wr_k X _ _ (by omega)) (fun i hi hc => us_ne σ v ?_)
    intro e
    subst e
    simp [so] at hj
    omega
  · rw [us_ne σ v (Ne.symm n11)]
    by_cases c : sk j = 16
    · rw [c, wr_i X _ _ (by have := q.2.2 c; omega)]; exact h1
    · rw [wr_k X _ _ (by omega)]; exact h1
  · rw [us_ne σ v (Ne.symm n10)]
    by_cases c : sk j = 16
    · rw [c, wr_i X _ _ (by have := q.2.2 c; omega)]; exact h0
    · rw [wr_k X _ _ (by omega)]; exact h0
  · rw [us_ne σ v (Ne.symm n10)]
    intro e
    exact (hk1 e).frame (wr_k X _ _ (by omega)) (fun b hb => us_ne σ v (nk b hb))
  · rw [us_ne σ v (Ne.symm n10)]
    intro e b hb
    rw [wr_k X _ _ (by omega)]
    exact hk0 e b hb
  · exact hg.frame (wr_k X _ _ (by omega)) (wr_k X _ _ (by omega)) (fun i hi => us_ne σ v (by omega))
theorem SR.ro (h : SR X R σ) : Ro X 4 σ := h.1.1
theorem SR.row (h : SR X R σ) : R 1 = enc σ := h.2
theorem SR.s (h : SR X R σ) {j : Nat} (hj : so j = true) : X (3 + sk j) (si j) = zI (σ j) := h.1.2.1 j hj
theorem SR.clock (h : SR X R σ) : X 3 5 = zI (σ 9) := h.s (j := 9) rfl
theorem SR.paint (h : SR X R σ) : X 3 6 = zI (σ 8) := h.s (j := 8) rfl
theorem SR.limit (h : SR X R σ) : X 3 7 = zI (σ 6) := h.s (j := 6) rfl
theorem SR.nudges (h : SR X R σ) : X 3 8 = zI (σ 7) := h.s (j := 7) rfl
theorem SR.waiting (h : SR X R σ) : X 16 0 = zI (σ 3) := h.s (j := 3) rfl
theorem SR.results (h : SR X R σ) : X 20 0 = zI (σ 4) := h.s (j := 4) rfl
theorem SR.wanted (h : SR X R σ) : X 19 2 = zI (σ 12) := h.s (j := 12) rfl
theorem SR.start (h : SR X R σ) : X 19 3 = zI (σ 13) := h.s (j := 13) rfl
theorem SR.toldN (h : SR X R σ) : X 19 4 = zI (σ 14) := h.s (j := 14) rfl
theorem SR.wrong (h : SR X R σ) : X 19 5 = zI (σ 15) := h.s (j := 15) rfl
theorem SR.off (h : SR X R σ) : X 19 6 = zI (σ 16) := h.s (j := 16) rfl
theorem SR.players (h : SR X R σ) : X 19 1 = zI (σ 11) := h.1.2.2.1
theorem SR.running (h : SR X R σ) : X 19 0 = zI (σ 10) := h.1.2.2.2.1
end ST
