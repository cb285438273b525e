/-! what is read of a text, from a place on -/
def Sx (T : Nat → Int) (n p : Nat) (S : List Int) : Prop := p + S.length = n ∧ ∀ i, i < S.length → T (p + i) = S.getD i 0
theorem Sx.cons {T : Nat → Int} {n p : Nat} {c : Int} {S : List Int} (h : Sx T n p (c :: S)) : p < n ∧ T p = c ∧ Sx T n (p + 1) S := by
  obtain ⟨h1, h2⟩ := h
  rw [List.length_cons] at h1
  refine ⟨by omega, ?_, by omega, fun i hi => ?_⟩
  · have := h2 0 (by simp)
    simpa using this
  · have := h2 (i + 1) (by simp; omega)
    rw [show p + (i + 1) = p + 1 + i by omega] at this
    simpa using this
theorem Sx.app {T : Nat → Int} {n : Nat} : ∀ (W : List Int) (p : Nat) (S : List Int), Sx T n p (W ++ S) → wmB T n W p = true ∧ wmP T n W p = p + W.length ∧ Sx T n (p + W.length) S := by
  intro W
  induction W with
  | nil => intro p S h; exact ⟨rfl, rfl, h⟩
  | cons c W ih =>
    intro p S h
    obtain ⟨h1, h2, h3⟩ := Sx.cons h
    obtain ⟨i1, i2, i3⟩ := ih (p + 1) S h3
    unfold wmB wmP
    rw [if_pos ⟨h1, h2⟩, if_pos ⟨h1, h2⟩, List.length_cons]
    exact ⟨i1, by omega, by rw [show p + (W.length + 1) = p + 1 + W.length by omega]; exact i3⟩
def Nd (E : List Int) : Prop := ∀ c S, E = c :: S → ¬ (48 ≤ c ∧ c ≤ 57)
def vl : List Int → Int → Int
  | [], v => v
  | c :: S, v => vl S (10 * v + (c - 48))
theorem Sx.num {T : Nat → Int} {n : Nat} {E : List Int} (hE : Nd E) : ∀ (D : List Int) (d p : Nat) (v : Int), (∀ c, c ∈ D → 48 ≤ c ∧ c ≤ 57) → D.length ≤ d → Sx T n p (D ++ E) → nuP T n d p = p + D.length ∧ nuV T n d p v = vl D v ∧ Sx T n (p + D.length) E := by
  intro D
  induction D with
  | nil =>
    intro d p v _ _ h
    refine ⟨?_, ?_, h⟩
    · cases d with
      | zero => rfl
      | succ d =>
        unfold nuP
        rw [if_neg]; rfl
        intro q
        cases E with
        | nil => have := h.1; simp at this; have := q.1; omega
        | cons c S =>
          obtain ⟨-, h2, -⟩ := Sx.cons h
          exact hE c S rfl (by rw [← h2]; exact q.2)
    · cases d with
      | zero => rfl
      | succ d =>
        unfold nuV
        rw [if_neg]; rfl
        intro q
        cases E with
        | nil => have := h.1; simp at this; have := q.1; omega
        | cons c S =>
          obtain ⟨-, h2, -⟩ := Sx.cons h
          exact hE c S rfl (by rw [← h2]; exact q.2)
  | cons c D ih =>
    intro d p v hD hd h
    obtain ⟨h1, h2, h3⟩ := Sx.cons h
    rw [List.length_cons] at hd
    obtain ⟨d, rfl⟩ : ∃ k, d = k + 1 := ⟨d - 1, by omega⟩
    have hc := hD c (List.mem_cons_self ..)
    obtain ⟨i1, i2, i3⟩ := ih d (p + 1) (10 * v + (c - 48)) (fun x hx => hD x (List.mem_cons_of_mem _ hx)) (by omega) h3
    unfold nuP nuV vl
    have hq : dgp T n p := ⟨h1, by omega, by omega⟩
    rw [if_pos hq, if_pos hq, List.length_cons, h2]
    exact ⟨by omega, i2, by rw [show p + (D.length + 1) = p + 1 + D.length by omega]; exact i3⟩
theorem bxl_ok {b : Int} (hb : 0 ≤ b ∧ b ≤ 11) : (∀ c, c ∈ bxl b → 48 ≤ c ∧ c ≤ 57) ∧ (1 ≤ (bxl b).length ∧ (bxl b).length ≤ 2) ∧ vl (bxl b) 0 = b := by
  unfold bxl
  split
  · refine ⟨fun c hc => ?_, by simp, ?_⟩
    · simp at hc; omega
    · simp [vl]; omega
  · refine ⟨fun c hc => ?_, by simp, ?_⟩
    · simp at hc; omega
    · simp [vl]; omega
theorem odl_ok {k : Nat} (hk : k < 4) (hk0 : k ≠ 0) {v : Int} (hv : 0 ≤ v ∧ (k = 2 → v < 10000) ∧ (k ≠ 2 → v < 100)) : (∀ c, c ∈ odl k v → 48 ≤ c ∧ c ≤ 57) ∧ (lo4 k ≤ (odl k v).length ∧ (odl k v).length ≤ hi4 k) ∧ vl (odl k v) 0 = v := by
  unfold odl lo4 hi4
  rw [if_neg (by omega)]
  by_cases c2 : k = 2
  · have hv2 := hv.2.1 c2
    rw [if_pos (by omega), if_pos c2, if_pos c2]
    refine ⟨fun c hc => ?_, by simp, ?_⟩
    · simp at hc; omega
    · simp only [vl]; omega
  · have hv2 := hv.2.2 c2
    rw [if_neg (by omega), if_neg c2, if_neg c2]
    split
    · refine ⟨fun c hc => ?_, by simp, ?_⟩
      · simp at hc; omega
      · simp only [vl]; omega
    · refine ⟨fun c hc => ?_, by simp, ?_⟩
      · simp at hc; omega
      · simp only [vl]; omega
theorem wrl_w : ∀ k : Nat, k < 4 → wrl k = wdl (k + 1) := by decide +kernel
theorem wrl_h : ∀ k : Nat, k < 4 → ∃ S, wrl k = lt1 k :: S := by
  intro k hk
  match k, hk with
  | 0, _ => exact ⟨_, rfl⟩
  | 1, _ => exact ⟨_, rfl⟩
  | 2, _ => exact ⟨_, rfl⟩
  | 3, _ => exact ⟨_, rfl⟩
/-- the place behind the lock's text, where all is as it is typed -/
theorem lock_at {T : Nat → Int} {n : Nat} {E : List Int} (hE : Nd E) {k : Nat} (hk : k < 4) {v : Int} (hv : 0 ≤ v ∧ (k = 2 → v < 10000) ∧ (k ≠ 2 → v < 100)) {p : Nat} (h : Sx T n p (wrl k ++ (odl k v ++ E))) : kd T n p = k ∧ lkB T n k p ∧ lkP T n k p + E.length = n ∧ (k ≠ 0 → lkV T n k p = v) := by
  obtain ⟨S, hS⟩ := wrl_h k hk
  have h0 := h
  rw [hS, List.cons_append] at h0
  obtain ⟨h1, h2, -⟩ := Sx.cons h0
  obtain ⟨a1, a2, a3⟩ := Sx.app _ _ _ h
  rw [wrl_w k hk] at a1 a2 a3
  refine ⟨?_, ?_⟩
  · unfold kd
    rw [if_pos h1, h2]
    match k, hk with
    | 0, _ => rfl
    | 1, _ => rfl
    | 2, _ => rfl
    | 3, _ => rfl
  · by_cases c : k = 0
    · subst c
      have e : odl ((0 : Nat) : Int) v = [] := rfl
      rw [e, List.nil_append] at a3
      refine ⟨⟨a1, fun q => absurd rfl q⟩, ?_, fun q => absurd rfl q⟩
      unfold lkP
      rw [if_neg (fun q => q.2 rfl), a2]
      exact a3.1
    · obtain ⟨o1, o2, o3⟩ := odl_ok hk c hv
      obtain ⟨b1, b2, b3⟩ := Sx.num hE _ (hi4 k) _ 0 o1 o2.2 a3
      refine ⟨⟨a1, fun _ => by rw [a2, b1]; omega⟩, ?_, fun _ => ?_⟩
      · unfold lkP
        rw [if_pos ⟨a1, c⟩, a2, b1]
        exact b3.1
      · unfold lkV
        rw [a2, b2, o3]
section PN
variable {X R : Mem} {T : Nat → Int} {n : Nat}
theorem parse_n (hn : n ≤ 20) (hT : Tok T) (x1 : X 1 1 = zI (n : Int)) (xs : ∀ i, i < n → X 2 i = zI (T i)) {E : List Int} (hE : Nd E) {b : Int} (hb : 0 ≤ b ∧ b ≤ 11) {k : Nat} (hk : k < 4) {v : Int} (hv : 0 ≤ v ∧ (k = 2 → v < 10000) ∧ (k ≠ 2 → v < 100)) (h : Sx T n 0 (txl b k v ++ E)) :
    ∃ X', (∀ q, q ≠ 1 → X' q = X q) ∧ X' 1 1 = X 1 1 ∧ ((E = [] ∧ fX0_findFault X = some (zI (-1), X') ∧ X' 1 2 = zI b ∧ X' 1 3 = zI (k : Int) ∧ (k ≠ 0 → X' 1 4 = zI v)) ∨ (E ≠ [] ∧ ∃ p : Nat, p + E.length = n ∧ fX0_findFault X = some (zI (p : Int), X'))) := by
  have h0 : XP T n (wr X 1 5 (0 : Int32)) 0 := ⟨by rw [wr_i _ _ _ (by omega)]; exact x1, wr_at _ _ _ _, fun i hi => by rw [wr_k _ _ _ (by omega)]; exact xs i hi⟩
  have f0 : ∀ k, k ≠ 1 → wr X 1 5 (0 : Int32) k = X k := fun k hk => wr_k _ _ _ hk
  have e0 : wr X 1 5 (0 : Int32) 1 1 = X 1 1 := wr_i _ _ _ (by omega)
  unfold txl at h
  rw [List.append_assoc, List.cons_append, List.append_assoc] at h
  obtain ⟨u1, u2, u3⟩ := bxl_ok hb
  obtain ⟨w1, w2, w3⟩ := Sx.num (E := 32 :: (wrl k ++ (odl k v ++ E))) (fun c S q => by cases q; omega) _ 2 0 0 u1 u2.2 h
  rw [u3] at w2
  obtain ⟨z1, z2, z3⟩ := Sx.cons w3
  obtain ⟨m1, m2, m3, m4⟩ := lock_at hE hk hv z3
  unfold fX0_findFault
  rw [thn_eq]
  generalize wr X 1 5 (0 : Int32) = X0 at *
  obtain ⟨X1, a1, a2, a3, a4⟩ := X_num hn hT (lo := 1) (hi := 2) (by omega) (by omega) h0 (by omega)
  rw [w1] at a1 a2
  rw [w2] at a3
  generalize hp1 : 0 + (bxl b).length = p1 at *
  rw [show fX0_matchesDigits X0 (1 : Int32) (2 : Int32) = _ from a1, bnd_some, i1_t (show 1 ≤ p1 - 0 by omega)]
  dsimp only
  rw [it1, thn_eq, thn_eq, a3]
  have x3 := (a2.cell (i := 2) (by omega) (zI b)).cell (i := 6) (by omega) 0
  obtain ⟨X2, e1, e2, e3⟩ := X_word hn hT (j := 0) (by omega) x3 (by omega)
  rw [show wdl 0 = [32] from ltl_w.2.2.2.2] at e1 e2
  have wm := wm1_t (T := T) (n := n) (c := 32) ⟨z1, z2⟩
  rw [wm.2] at e2
  have fX2 : ∀ k, k ≠ 1 → X2 k = X k := fun k hk => by rw [e3.1 k hk, wr_k _ _ _ hk, wr_k _ _ _ hk, a4.1 k hk, f0 k hk]
  have eX2 : X2 1 1 = X 1 1 := by rw [e3.2 1 (by omega) (by omega), wr_i _ _ _ (by omega), wr_i _ _ _ (by omega), a4.2 1 (by omega) (by omega), e0]
  have oX2 : X2 1 2 = zI b := by rw [e3.2 2 (by omega) (by omega), wr_i _ _ _ (by omega), wr_at]
  rw [e1, bnd_some, wm.1, i1_t rfl]
  dsimp only
  rw [it1]
  rcases X_lockAll hn hT e2 (by omega) with ⟨g1, g2⟩ | ⟨g1, X3, g2, g3, g4, g5, g6, g7⟩
  · omega
  · rw [m1] at g1 g2 g3 g4 g6
    have fX3 : ∀ q, q ≠ 1 → X3 q = X q := fun q hq => by rw [g7 q hq, fX2 q hq]
    rw [g2, bnd_some, i1_t m2]
    dsimp only
    rw [it1]
    by_cases c : E = []
    · subst c
      rw [if_pos (show X3 1 5 = X3 1 1 by rw [g3.2.1, g3.1, show lkP T n k (p1 + 1) = n by simpa using m3]), thn_eq]
      exact ⟨_, fun x hx => by rw [wr_k _ _ _ hx, fX3 x hx], by rw [wr_i _ _ _ (by omega), g3.1, x1], Or.inl ⟨rfl, rfl, by rw [wr_i _ _ _ (by omega), g5, oX2], by rw [wr_i _ _ _ (by omega), g4], fun q => by rw [wr_at, g6 q m2, m4 q]⟩⟩
    · have hl : 0 < E.length := List.length_pos_iff.mpr c
      rw [if_neg (show ¬ X3 1 5 = X3 1 1 by rw [g3.2.1, g3.1, zeq] <;> omega)]
      exact ⟨X3, fX3, by rw [g3.1, x1], Or.inr ⟨c, lkP T n k (p1 + 1), m3, by rw [g3.2.1]⟩⟩
end PN
