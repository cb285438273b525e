/-- held props come to lie in the room: the first i of them -/
def drp (σ : Nat → Int) (i : Nat) : Nat → Int := fun j => if 104 ≤ j ∧ j < 104 + i ∧ σ j = -1 then 0 else σ j
theorem drp_0 (σ : Nat → Int) : drp σ 0 = σ := by
  funext j
  unfold drp
  rw [if_neg (by omega)]
theorem drp_t {σ : Nat → Int} {i : Nat} (h : σ (104 + i) = -1) : drp σ (i + 1) = us (drp σ i) (104 + i) 0 := by
  funext j
  unfold drp us
  by_cases q : j = 104 + i
  · subst q; rw [if_pos (by omega), if_pos rfl]
  · rw [if_neg q]
    show (if 104 ≤ j ∧ j < 104 + (i + 1) ∧ σ j = -1 then 0 else σ j) = (if 104 ≤ j ∧ j < 104 + i ∧ σ j = -1 then 0 else σ j)
    by_cases q2 : 104 ≤ j ∧ j < 104 + i ∧ σ j = -1
    · rw [if_pos q2, if_pos (by omega)]
    · rw [if_neg q2, if_neg (by omega)]
theorem drp_f {σ : Nat → Int} {i : Nat} (h : ¬ σ (104 + i) = -1) : drp σ (i + 1) = drp σ i := by
  funext j
  unfold drp
  by_cases q : j = 104 + i
  · subst q; rw [if_neg (by omega), if_neg (by omega)]
  · by_cases q2 : 104 ≤ j ∧ j < 104 + i ∧ σ j = -1
    · rw [if_pos q2, if_pos (by omega)]
    · rw [if_neg q2, if_neg (by omega)]
theorem drp_ne {σ : Nat → Int} {i j : Nat} (h : j < 104 ∨ 104 + i ≤ j) : drp σ i j = σ j := by
  unfold drp
  rw [if_neg (by omega)]
theorem drp_us {σ : Nat → Int} {i j : Nat} {v : Int} (h : j < 104 ∨ 104 + i ≤ j) : drp (us σ j v) i = us (drp σ i) j v := by
  funext k
  unfold drp us
  by_cases q : k = j
  · subst q; rw [if_neg (by omega), if_pos rfl, if_pos rfl]
  · rw [if_neg q, if_neg q]
theorem RB.lies {σ : Nat → Int} (h : RB σ) {p : Nat} {v : Int} (hv : -1 ≤ v ∧ v < σ 0) (hp : p < 24) : RB (us σ (104 + p) v) := by
  obtain ⟨a0, hO, hL, hP, -, hPr, hC⟩ := h
  have e : ∀ j, j < 104 ∨ 128 ≤ j → us σ (104 + p) v j = σ j := fun j hj => us_ne σ v (by omega)
  refine ⟨by rw [e 0 (by omega), e 1 (by omega), e 2 (by omega), e 5 (by omega), e 11 (by omega)]; exact a0, ?_, ?_, ⟨by rw [e 56 (by omega)]; exact hP.1, ?_⟩, trivial, ?_, ?_⟩
  · intro b h1 hb
    rw [e 0 (by omega)] at hb
    rw [e (20 + b) (by omega)]
    exact hO b h1 hb
  · intro b h1 hb
    rw [e 0 (by omega)] at hb
    rw [e (32 + b) (by omega), e (44 + b) (by omega), e 1 (by omega)]
    exact hL b h1 hb
  · intro b hb
    rw [e (56 + b) (by omega)]
    exact hP.2 b hb
  · intro q hq
    rw [e 1 (by omega)] at hq
    have := hPr q hq
    rw [e (80 + q) (by omega), e 0 (by omega)]
    by_cases c : q = p
    · subst c; rw [us_at]; exact ⟨this.1, hv⟩
    · rw [us_ne σ v (by omega)]; exact this
  · intro c hc
    rw [e 2 (by omega)] at hc
    have := hC c hc
    rw [e (128 + c) (by omega), e (140 + c) (by omega), e (152 + c) (by omega), e 0 (by omega), e 1 (by omega), e (32 + (σ (140 + c)).toNat) (by omega), e (164 + c) (by omega)]
    exact this
theorem drp_B {σ : Nat → Int} (hB : RB σ) : ∀ i : Nat, (i : Int) ≤ σ 1 → RB (drp σ i) := by
  intro i
  induction i with
  | zero => intro _; rw [drp_0]; exact hB
  | succ i ih =>
    intro hi
    have h0 := hB.1
    by_cases c : σ (104 + i) = -1
    · rw [drp_t c]
      refine (ih (by omega)).lies ?_ (by omega)
      rw [drp_ne (by omega)]; omega
    · rw [drp_f c]; exact ih (by omega)
section EN
variable {r : Nat} {σ : Nat → Int}
theorem drp_at {i : Nat} : drp σ i (104 + i) = σ (104 + i) := drp_ne (by omega)
theorem X_drop_L (hB : RB σ) : ∀ (d i n : Nat) (X : Mem), Ro X r (drp σ i) → (i : Int) + d = σ 1 → d < n → ∃ X', fX5_dropHeldProps_L2 r n X (zI (i : Int)) = some X' ∧ Ro X' r (drp σ (σ 1).toNat) ∧ ∀ k, k ≠ r + 7 → X' k = X k := by
  have h0 := hB.1
  intro d
  induction d with
  | zero =>
    intro i n X hr hi hn
    obtain ⟨n, rfl⟩ := ex_succ hn
    have hB2 := drp_B hB i (by omega)
    refine ⟨X, ?_, by rw [show (σ 1).toNat = i by omega]; exact hr, fun _ _ => rfl⟩
    rw [fX5_dropHeldProps_L2, if_pos (by rw [hr.np, drp_ne (by omega), zle] <;> omega)]
  | succ d ih =>
    intro i n X hr hi hn
    obtain ⟨n, rfl⟩ := ex_succ hn
    have hB2 := drp_B hB i (by omega)
    have e1 : drp σ i 1 = σ 1 := drp_ne (by omega)
    rw [fX5_dropHeldProps_L2, if_neg (by rw [hr.np, e1, zle] <;> omega), X_isHeld hr hB2 (p := i) (by rw [e1]; omega), drp_at, zsuc]
    by_cases c : σ (104 + i) = -1
    · rw [i1_t c, if_neg (by decide), thn_eq, zc0]
      have hr2 := hr.put (loc_104 i (by omega)) (n := 24) (by omega) (by omega) (by omega) 0
      rw [← drp_t c] at hr2
      obtain ⟨X', p1, p2, p3⟩ := ih (i + 1) n _ hr2 (by omega) (by omega)
      refine ⟨X', p1, p2, fun k hk => (p3 k hk).trans ?_⟩
      rw [put_in (by omega) (by omega), wr_k X _ _ hk]
    · rw [i1_f c, if_pos rfl]
      exact ih (i + 1) n X (by rw [drp_f c]; exact hr) (by omega) (by omega)
theorem X_drop {X : Mem} (hr : Ro X r σ) (hB : RB σ) : ∃ X', fX5_dropHeldProps r X = some X' ∧ Ro X' r (drp σ (σ 1).toNat) ∧ ∀ k, k ≠ r + 7 → X' k = X k := by
  have h0 := hB.1
  exact X_drop_L hB (σ 1).toNat 0 5000 X (by rw [drp_0]; exact hr) (by omega) (by omega)
theorem X_forget_L : ∀ (d i n : Nat) (X : Mem) (nb : Nat), X r 0 = zI (nb : Int) → nb ≤ 12 → i + d = nb → d < n → ∃ X', fX5_forgetDigits_L2 r n X (zI (i : Int)) = some X' ∧ (∀ k, k ≠ r + 5 → X' k = X k) ∧ (∀ b, i ≤ b → b < nb → X' (r + 5) b = 0) ∧ ∀ b, b < i ∨ nb ≤ b → X' (r + 5) b = X (r + 5) b := by
  intro d
  induction d with
  | zero =>
    intro i n X nb hX hb hi hn
    obtain ⟨n, rfl⟩ := ex_succ hn
    exact ⟨X, by rw [fX5_forgetDigits_L2, if_pos (by rw [hX, zle] <;> omega)], fun _ _ => rfl, fun b h1 h2 => by omega, fun _ _ => rfl⟩
  | succ d ih =>
    intro i n X nb hX hb hi hn
    obtain ⟨n, rfl⟩ := ex_succ hn
    rw [fX5_forgetDigits_L2, if_neg (by rw [hX, zle] <;> omega), thn_eq, put_in (by omega) (by omega), zsuc]
    obtain ⟨X', p1, p2, p3, p4⟩ := ih (i + 1) n (wr X (r + 5) i 0) nb (by rw [wr_k X _ _ (by omega)]; exact hX) hb (by omega) (by omega)
    refine ⟨X', p1, fun k hk => (p2 k hk).trans (wr_k X _ _ hk), fun b h1 h2 => ?_, fun b hb => ?_⟩
    · by_cases q : b = i
      · subst q; rw [p4 b (by omega), wr_at]
      · exact p3 b (by omega) h2
    · rw [p4 b (by omega), wr_i X _ _ (by omega)]
theorem X_forget {X : Mem} (hr : Ro X r σ) (hB : RB σ) : ∃ X', fX5_forgetDigits r X = some X' ∧ (∀ k, k ≠ r + 5 → X' k = X k) ∧ (∀ b : Nat, (b : Int) < σ 0 → X' (r + 5) b = 0) ∧ ∀ b : Nat, σ 0 ≤ b → X' (r + 5) b = X (r + 5) b := by
  have h0 := hB.1
  obtain ⟨X', p1, p2, p3, p4⟩ := X_forget_L (σ 0).toNat 0 5000 X (σ 0).toNat (by rw [hr.nb]; congr 1; omega) (by omega) (by omega) (by omega)
  exact ⟨X', p1, p2, fun b hb => p3 b (by omega) (by omega), fun b hb => p4 b (by omega)⟩
/-- the reference notes the result and ends the game -/
def enE (σ : Nat → Int) (won : Int) (k : Nat) : Nat → Int :=
  us (us (us (us (us (us (us (us (us σ (192 + 7 * k) (σ 11)) (193 + 7 * k) (σ 12)) (194 + 7 * k) (σ 13)) (195 + 7 * k) (σ 9 - σ 13)) (196 + 7 * k) won) (197 + 7 * k) (σ 14)) (198 + 7 * k) (σ 16)) 4 (σ 4 + 1)) 10 0
theorem R_res {R : Mem} (hR : R 1 = enc σ) {k : Nat} (hk : σ 4 = k) (hk2 : k ≤ 29) (won : Int) : (thn ((192 : Int32) + ((7 : Int32) * (R 1 4))) fun y2 => if inb y2 902 = true then thn (wr R 1 (y2.toNatClampNeg) (R 1 11)) fun M4 => if inb (y2 + (1 : Int32)) 902 = true then thn (wr M4 1 ((y2 + (1 : Int32)).toNatClampNeg) (M4 1 12)) fun M6 => if inb (y2 + (2 : Int32)) 902 = true then thn (wr M6 1 ((y2 + (2 : Int32)).toNatClampNeg) (M6 1 13)) fun M8 => if inb (y2 + (3 : Int32)) 902 = true then thn (wr M8 1 ((y2 + (3 : Int32)).toNatClampNeg) ((M8 1 9) - (M8 1 13))) fun M10 => if inb (y2 + (4 : Int32)) 902 = true then thn (wr M10 1 ((y2 + (4 : Int32)).toNatClampNeg) (zI won)) fun M12 => if inb (y2 + (5 : Int32)) 902 = true then thn (wr M12 1 ((y2 + (5 : Int32)).toNatClampNeg) (M12 1 14)) fun M14 => if inb (y2 + (6 : Int32)) 902 = true then thn (wr M14 1 ((y2 + (6 : Int32)).toNatClampNeg) (M14 1 16)) fun M16 => thn (wr M16 1 4 ((M16 1 4) + (1 : Int32))) fun M17 => thn (wr M17 1 10 (0 : Int32)) fun M18 => some M18 else none else none else none else none else none else none else none) = some (setR R 1 (enc (enE σ won k))) := by
  have t : ∀ i : Nat, i ≤ 6 → zI ((192 + 7 * k : Nat) : Int) + zI (i : Int) = zI ((192 + i + 7 * k : Nat) : Int) := fun i _ => by rw [zadd]; congr 1; omega
  have t' : ∀ i : Nat, i ≤ 6 → (zI ((192 + i + 7 * k : Nat) : Int)).toNatClampNeg = 192 + i + 7 * k := fun i hi => by rw [ztn (by omega) (by omega)]; omega
  have u : ∀ i : Nat, i ≤ 6 → inb (zI ((192 + i + 7 * k : Nat) : Int)) 902 = true := fun i hi => by rw [zinb] <;> omega
  have e0 : (192 : Int32) + (7 : Int32) * R 1 4 = zI ((192 + 7 * k : Nat) : Int) := by rw [rd hR, hk, zc192, zc7, zmul, zadd]; congr 1
  rw [thn_eq, e0, if_pos (u 0 (by omega)), thn_eq, t' 0 (by omega)]
  rw [show (1 : Int32) = zI ((1 : Nat) : Int) from rfl, t 1 (by omega), if_pos (u 1 (by omega)), thn_eq, t' 1 (by omega)]
  rw [show (2 : Int32) = zI ((2 : Nat) : Int) from rfl, t 2 (by omega), if_pos (u 2 (by omega)), thn_eq, t' 2 (by omega)]
  rw [show (3 : Int32) = zI ((3 : Nat) : Int) from rfl, t 3 (by omega), if_pos (u 3 (by omega)), thn_eq, t' 3 (by omega)]
  rw [show (4 : Int32) = zI ((4 : Nat) : Int) from rfl, t 4 (by omega), if_pos (u 4 (by omega)), thn_eq, t' 4 (by omega)]
  rw [show (5 : Int32) = zI ((5 : Nat) : Int) from rfl, t 5 (by omega), if_pos (u 5 (by omega)), thn_eq, t' 5 (by omega)]
  rw [show (6 : Int32) = zI ((6 : Nat) : Int) from rfl, t 6 (by omega), if_pos (u 6 (by omega)), thn_eq, t' 6 (by omega), thn_eq, thn_eq]
  have w1 : ∀ (f : Nat → Int) (j : Nat) (v : Int32) (z : Int), v = zI z → wr (setR R 1 (enc f)) 1 j v = setR R 1 (enc (us f j z)) := by
    intro f j v z hv
    subst hv
    unfold wr
    rw [setR_at, setR_setR, enc_us]
  have g1 : ∀ (f : Nat → Int) (j : Nat), setR R 1 (enc f) 1 j = zI (f j) := fun f j => by rw [setR_at]; rfl
  have a0 : wr R 1 (192 + 0 + 7 * k) (R 1 11) = setR R 1 (enc (us σ (192 + 7 * k) (σ 11))) := by
    have := w1 σ (192 + 7 * k) (R 1 11) (σ 11) (rd hR 11)
    rw [← hR, setR_self] at this
    exact this
  rw [a0, w1 _ _ _ (σ 12) (by rw [g1, us_ne _ _ (by omega)]), w1 _ _ _ (σ 13) (by rw [g1, us_ne _ _ (by omega), us_ne _ _ (by omega)])]
  rw [w1 _ _ _ (σ 9 - σ 13) (by rw [g1, g1, zsub, us_ne _ _ (by omega), us_ne _ _ (by omega), us_ne _ _ (by omega), us_ne _ _ (by omega), us_ne _ _ (by omega), us_ne _ _ (by omega)])]
  rw [w1 _ _ _ won rfl]
  rw [w1 _ _ _ (σ 14) (by rw [g1, us_ne _ _ (by omega), us_ne _ _ (by omega), us_ne _ _ (by omega), us_ne _ _ (by omega), us_ne _ _ (by omega)])]
  rw [w1 _ _ _ (σ 16) (by rw [g1, us_ne _ _ (by omega), us_ne _ _ (by omega), us_ne _ _ (by omega), us_ne _ _ (by omega), us_ne _ _ (by omega), us_ne _ _ (by omega)])]
  rw [w1 _ _ _ (σ 4 + 1) (by rw [g1, us_ne _ _ (by omega), us_ne _ _ (by omega), us_ne _ _ (by omega), us_ne _ _ (by omega), us_ne _ _ (by omega), us_ne _ _ (by omega), us_ne _ _ (by omega), zadd]; rfl)]
  rw [w1 _ 10 (0 : Int32) 0 rfl]
  rfl
theorem R_end_L (hB : RB σ) {k : Nat} (hk : σ 4 = k) (hk2 : k ≤ 29) (won : Int) : ∀ (d i n : Nat) (R : Mem), R 1 = enc (drp σ i) → (i : Int) + d = σ 1 → d < n → fX8_end_L2 n R (zI won) (zI (i : Int)) = some (setR R 1 (enc (enE (drp σ (σ 1).toNat) won k))) := by
  have h0 := hB.1
  intro d
  induction d with
  | zero =>
    intro i n R hR hi hn
    obtain ⟨n, rfl⟩ := ex_succ hn
    have e1 : drp σ i 1 = σ 1 := drp_ne (by omega)
    rw [fX8_end_L2, if_pos (by rw [rd hR, e1, zle] <;> omega), show (σ 1).toNat = i by omega]
    exact R_res hR (by rw [drp_ne (by omega)]; exact hk) hk2 won
  | succ d ih =>
    intro i n R hR hi hn
    obtain ⟨n, rfl⟩ := ex_succ hn
    have hB2 := drp_B hB i (by omega)
    have e1 : drp σ i 1 = σ 1 := drp_ne (by omega)
    have hi2 : inb ((104 : Int32) + zI (i : Int)) 902 = true := i104 (by omega)
    rw [fX8_end_L2, if_neg (by rw [rd hR, e1, zle] <;> omega), R_isHeld hR hB2 (p := i) (by rw [e1]; omega), drp_at, bnd_some, zsuc, j104 (by omega)]
    by_cases c : σ (104 + i) = -1
    · rw [i1_t c, if_neg (by decide), if_pos hi2, thn_eq, zc0]
      have hR2 := wrR hR (104 + i) 0
      rw [← drp_t c] at hR2
      rw [ih (i + 1) n _ hR2 (by omega) (by omega)]
      unfold wr
      rw [setR_setR]
    · rw [i1_f c, if_pos rfl, if_pos hi2, if_pos hi2, thn_eq, wr_self]
      exact ih (i + 1) n R (by rw [drp_f c]; exact hR) (by omega) (by omega)
theorem R_end {R : Mem} (hR : R 1 = enc σ) (hB : RB σ) {k : Nat} (hk : σ 4 = k) (hk2 : k ≤ 29) (won : Int) : fX8_end R (zI won) = some (setR R 1 (enc (enE (drp σ (σ 1).toNat) won k))) := by
  have h0 := hB.1
  exact R_end_L hB hk hk2 won (σ 1).toNat 0 5000 R (by rw [drp_0]; exact hR) (by omega) (by omega)
end EN
