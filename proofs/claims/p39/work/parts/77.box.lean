/-! a box is added -/
section BX
variable {X R : Mem} {σ : Nat → Int} {n : Nat} {B : Int}
/-- a lock and what it asks for -/
theorem SRlock (h : SR X R σ) {b : Nat} (hb : b < 12) {k v : Int} {iv : Int32} (hiv : k ≠ 0 → iv = zI v) : SR (wr (wr X 6 b (zI k)) 7 b iv) (wr (wr R 1 (32 + b) (zI k)) 1 (44 + b) (zI v)) (us (us σ (32 + b) k) (44 + b) v) ∧ Fr X R (wr (wr X 6 b (zI k)) 7 b iv) (wr (wr R 1 (32 + b) (zI k)) 1 (44 + b) (zI v)) := by
  obtain ⟨⟨⟨hr1, hr2⟩, hs, h1, h0, hk1, hk0, hg⟩, hR⟩ := h
  have e : ∀ j, j ≠ 32 + b → j ≠ 44 + b → us (us σ (32 + b) k) (44 + b) v j = σ j := fun j q1 q2 => by rw [us_ne _ _ q2, us_ne _ _ q1]
  refine ⟨⟨⟨⟨fun j hj => ?_, fun c hc hn => ?_⟩, ?_, ?_, ?_, ?_, ?_, ?_⟩, wrR (wrR hR _ _) _ _⟩, ⟨fun q hq => by rw [wr_k _ _ _ (by omega), wr_k _ _ _ (by omega)], fun q q1 q2 => by rw [wr_k _ _ _ (by omega), wr_k _ _ _ (by omega)], by rw [wr_k _ _ _ (by omega), wr_k _ _ _ (by omega)]⟩⟩
  · have l := loc_32 b hb
    have q3 := rk_ok j (ro_lt hj) hj
    by_cases c : j = 32 + b
    · subst c
      rw [us_ne _ _ (by omega), us_at, l.2.1, l.2.2, wr_k _ _ _ (by omega), wr_at]
    · have c2 : j ≠ 44 + b := by
        intro q; subst q
        simp [ro] at hj
        omega
      rw [e j c c2, ← hr1 j hj, wr_k _ _ _ (by omega)]
      by_cases q : rk j = 2
      · rw [q, wr_i _ _ _ ?_]
        intro t
        exact c (ro_inj hj l.1 (by rw [q, l.2.1]) (by rw [t, l.2.2]))
      · rw [wr_k _ _ _ (by omega)]
  · by_cases q : c = b
    · subst q
      rw [us_ne _ _ (by omega), us_at] at hn
      rw [us_at, show (4 : Nat) + 3 = 7 from rfl, wr_at]
      exact hiv hn
    · rw [us_ne _ _ (by omega), us_ne _ _ (by omega)] at hn
      rw [us_ne _ _ (by omega), us_ne _ _ (by omega), ← hr2 c hc hn, show (4 : Nat) + 3 = 7 from rfl, wr_i _ _ _ q, wr_k _ _ _ (by omega)]
  · refine hs.frame (fun q hq => by rw [wr_k _ _ _ (by omega), wr_k _ _ _ (by omega)]) (fun i _ => by rw [wr_k _ _ _ (by omega), wr_k _ _ _ (by omega)]) (fun i hi => e i ?_ ?_)
    · intro q; subst q; simp [so] at hi; omega
    · intro q; subst q; simp [so] at hi; omega
  · rw [wr_k _ _ _ (by omega), wr_k _ _ _ (by omega), e 11 (by omega) (by omega)]; exact h1
  · rw [wr_k _ _ _ (by omega), wr_k _ _ _ (by omega), e 10 (by omega) (by omega)]; exact h0
  · rw [e 10 (by omega) (by omega)]
    exact fun q => (hk1 q).frame (by rw [wr_k _ _ _ (by omega), wr_k _ _ _ (by omega)]) (fun b' hb' => e _ (by omega) (by omega))
  · rw [e 10 (by omega) (by omega)]
    intro q c hc
    rw [wr_k _ _ _ (by omega), wr_k _ _ _ (by omega)]
    exact hk0 q c hc
  · exact hg.frame (by rw [wr_k _ _ _ (by omega), wr_k _ _ _ (by omega)]) (by rw [wr_k _ _ _ (by omega), wr_k _ _ _ (by omega)]) (fun j hj => e j (by omega) (by omega))
theorem RB.box (hB : RB σ) {b : Nat} (hb : σ 0 = b) (hb2 : b < 12) {o k v : Int} (ho : 0 ≤ o ∧ o < b) (hk : 0 ≤ k ∧ k ≤ 3) (h0 : k = 0 → v = -5) (h13 : k = 1 ∨ k = 3 → 0 ≤ v ∧ v < σ 1) (h2 : k = 2 → 0 ≤ v ∧ v ≤ 9999) : RB (us (us (us (us (us σ (20 + b) o) (32 + b) k) (44 + b) v) (56 + b) 0) 0 (σ 0 + 1)) := by
  obtain ⟨⟨a0, a1, a2, a5, a11⟩, hO, hL, hP, -, hPr, hC⟩ := hB
  generalize hσ' : us (us (us (us (us σ (20 + b) o) (32 + b) k) (44 + b) v) (56 + b) 0) 0 (σ 0 + 1) = σ'
  have e : ∀ j, j ≠ 0 → j ≠ 20 + b → j ≠ 32 + b → j ≠ 44 + b → j ≠ 56 + b → σ' j = σ j := fun j q1 q2 q3 q4 q5 => by rw [← hσ', us_ne _ _ q1, us_ne _ _ q5, us_ne _ _ q4, us_ne _ _ q3, us_ne _ _ q2]
  have e0 : σ' 0 = σ 0 + 1 := by rw [← hσ', us_at]
  have e20 : σ' (20 + b) = o := by rw [← hσ', us_ne _ _ (by omega), us_ne _ _ (by omega), us_ne _ _ (by omega), us_ne _ _ (by omega), us_at]
  have e32 : σ' (32 + b) = k := by rw [← hσ', us_ne _ _ (by omega), us_ne _ _ (by omega), us_ne _ _ (by omega), us_at]
  have e44 : σ' (44 + b) = v := by rw [← hσ', us_ne _ _ (by omega), us_ne _ _ (by omega), us_at]
  have e56 : σ' (56 + b) = 0 := by rw [← hσ', us_ne _ _ (by omega), us_at]
  have e1 := e 1 (by omega) (by omega) (by omega) (by omega) (by omega)
  have e2 := e 2 (by omega) (by omega) (by omega) (by omega) (by omega)
  have e5 := e 5 (by omega) (by omega) (by omega) (by omega) (by omega)
  have e11 := e 11 (by omega) (by omega) (by omega) (by omega) (by omega)
  refine ⟨⟨by omega, by omega, by omega, by omega, by omega⟩, ?_, ?_, ⟨?_, ?_⟩, trivial, ?_, ?_⟩
  · intro c h1 hc
    by_cases q : c = b
    · subst q; rw [e20]; omega
    · rw [e _ (by omega) (by omega) (by omega) (by omega) (by omega)]
      exact hO c h1 (by omega)
  · intro c h1 hc
    by_cases q : c = b
    · subst q; rw [e32, e44, e1]; exact ⟨hk, h0, h13, h2⟩
    · rw [e (32 + c) (by omega) (by omega) (by omega) (by omega) (by omega), e (44 + c) (by omega) (by omega) (by omega) (by omega) (by omega), e1]
      exact hL c h1 (by omega)
  · rw [e 56 (by omega) (by omega) (by omega) (by omega) (by omega)]; exact hP.1
  · intro c hc
    by_cases q : c = b
    · subst q; rw [e56]; exact Or.inl rfl
    · rw [e _ (by omega) (by omega) (by omega) (by omega) (by omega)]; exact hP.2 c hc
  · intro p hp
    rw [e1] at hp
    have := hPr p hp
    rw [e (80 + p) (by omega) (by omega) (by omega) (by omega) (by omega), e (104 + p) (by omega) (by omega) (by omega) (by omega) (by omega), e0]
    omega
  · intro c hc
    rw [e2] at hc
    have := hC c hc
    rw [e (128 + c) (by omega) (by omega) (by omega) (by omega) (by omega), e (140 + c) (by omega) (by omega) (by omega) (by omega) (by omega), e (152 + c) (by omega) (by omega) (by omega) (by omega) (by omega), e (164 + c) (by omega) (by omega) (by omega) (by omega) (by omega), e0, e1, e (32 + (σ (140 + c)).toNat) (by omega) (by omega) (by omega) (by omega) (by omega)]
    omega
theorem append_n (h : SR X R σ) (hI : Iv n σ) (hJ : J B σ) (h10 : σ 10 = 0) (h12 : σ 0 < 12) {o k v : Int} {iv : Int32} (ho : 0 ≤ o ∧ o < σ 0) (hk : 0 ≤ k ∧ k ≤ 3) (h0 : k = 0 → v = -5) (h13 : k = 1 ∨ k = 3 → 0 ≤ v ∧ v < σ 1) (h2 : k = 2 → 0 ≤ v ∧ v ≤ 9999) (hiv : k ≠ 0 → iv = zI v) : ∃ X' R' σ', fX5_appendBox 4 X (zI o) (zI k) iv = some (zI (σ 0), X') ∧ SR X' R' σ' ∧ (∀ q, q < 3 → X' q = X q) ∧ Iv (n + 1) σ' ∧ J B σ' ∧ σ' 0 = σ 0 + 1 ∧ σ' 1 = σ 1 ∧ σ' 10 = 0 ∧ σ' (20 + (σ 0).toNat) = o ∧ σ' (32 + (σ 0).toNat) = k ∧ σ' (44 + (σ 0).toNat) = v ∧ σ' (56 + (σ 0).toNat) = 0 := by
  have hB := hI.1
  have b0 := hB.1
  obtain ⟨b, hb⟩ : ∃ b : Nat, σ 0 = b := ⟨(σ 0).toNat, by omega⟩
  obtain ⟨s1, f1⟩ := SRput h (loc_20 b (by omega)) (m := 12) (by omega) (by omega) (by omega) (by omega) o
  obtain ⟨s2, f2⟩ := SRlock s1 (b := b) (by omega) (k := k) (v := v) hiv
  obtain ⟨s3, f3⟩ := SRput s2 (loc_56 b (by omega)) (m := 12) (by omega) (by omega) (by omega) (by omega) 0
  obtain ⟨s4, f4⟩ := s3.room (j := 0) rfl (by omega) (by omega) (σ 0 + 1)
  have hB' := hB.box hb (by omega) (o := o) (k := k) (v := v) (by omega) hk h0 h13 h2
  have e : ∀ j, j ≠ 0 → j ≠ 20 + b → j ≠ 32 + b → j ≠ 44 + b → j ≠ 56 + b → us (us (us (us (us σ (20 + b) o) (32 + b) k) (44 + b) v) (56 + b) 0) 0 (σ 0 + 1) j = σ j := fun j q1 q2 q3 q4 q5 => by rw [us_ne _ _ q1, us_ne _ _ q5, us_ne _ _ q4, us_ne _ _ q3, us_ne _ _ q2]
  have z9 : putX X (4 + 1) 12 (zI (b : Int)) (zI o) 9 b = 0 := by
    rw [put_in (by omega) (by omega), wr_k _ _ _ (by omega)]
    exact h.1.2.2.2.2.2.1 h10 b (by omega)
  have z9' : putX (wr (wr (putX X (4 + 1) 12 (zI (b : Int)) (zI o)) 6 b (zI k)) 7 b iv) (4 + 4) 12 (zI (b : Int)) (zI 0) 9 b = 0 := by
    rw [put_in (by omega) (by omega), wr_k _ _ _ (by omega), wr_k _ _ _ (by omega), wr_k _ _ _ (by omega)]
    exact z9
  have nb := s3.ro.nb
  rw [us_ne _ _ (by omega), us_ne _ _ (by omega), us_ne _ _ (by omega), us_ne _ _ (by omega), hb] at nb
  have hbt : (σ 0).toNat = b := by omega
  rw [hbt]
  refine ⟨_, _, _, ?_, s4, fun q hq => (((f1.trans f2).trans f3).trans f4).1 q (by omega), hI.off h10 hB' (fun j hj => e j (by omega) (by omega) (by omega) (by omega) (by omega)) ?_ ?_ ?_, j_off hI hJ h10 (fun j hj => e j (by omega) (by omega) (by omega) (by omega) (by omega)) ?_, us_at _ _ _, e 1 (by omega) (by omega) (by omega) (by omega) (by omega), by rw [e 10 (by omega) (by omega) (by omega) (by omega) (by omega)]; exact h10, ?_, ?_, ?_, ?_⟩
  · unfold fX5_appendBox
    rw [h.ro.nb, hb, thn_eq, thn_eq, thn_eq, thn_eq, thn_eq, thn_eq]
    rw [show putX (putX X (4 + 1) 12 (zI (b : Int)) (zI o)) (4 + 2) 12 (zI (b : Int)) (zI k) = wr (putX X (4 + 1) 12 (zI (b : Int)) (zI o)) 6 b (zI k) from put_in (by omega) (by omega) _, show putX (wr (putX X (4 + 1) 12 (zI (b : Int)) (zI o)) 6 b (zI k)) (4 + 3) 12 (zI (b : Int)) iv = wr (wr (putX X (4 + 1) 12 (zI (b : Int)) (zI o)) 6 b (zI k)) 7 b iv from put_in (by omega) (by omega) _]
    rw [show putX (putX (wr (wr (putX X (4 + 1) 12 (zI (b : Int)) (zI o)) 6 b (zI k)) 7 b iv) (4 + 4) 12 (zI (b : Int)) 0) (4 + 5) 12 (zI (b : Int)) 0 = putX (wr (wr (putX X (4 + 1) 12 (zI (b : Int)) (zI o)) 6 b (zI k)) 7 b iv) (4 + 4) 12 (zI (b : Int)) (zI 0) from by rw [show (0 : Int32) = zI 0 from rfl]; exact (put_in (k := 4 + 5) (by omega) (by omega) _).trans (wr_id _ z9')]
    rw [nb, zc1, zadd]
    rfl
  · rw [e 8 (by omega) (by omega) (by omega) (by omega) (by omega)]; have := hI.2.1; omega
  · rw [e 9 (by omega) (by omega) (by omega) (by omega) (by omega)]; omega
  · intro p hp
    rw [e 1 (by omega) (by omega) (by omega) (by omega) (by omega)] at hp
    rw [e _ (by omega) (by omega) (by omega) (by omega) (by omega)]
    exact hI.2.2.2.1 h10 p hp
  · rw [e 9 (by omega) (by omega) (by omega) (by omega) (by omega)]; omega
  · rw [us_ne _ _ (by omega), us_ne _ _ (by omega), us_ne _ _ (by omega), us_ne _ _ (by omega), us_at]
  · rw [us_ne _ _ (by omega), us_ne _ _ (by omega), us_ne _ _ (by omega), us_at]
  · rw [us_ne _ _ (by omega), us_ne _ _ (by omega), us_at]
  · rw [us_ne _ _ (by omega), us_at]
theorem getD_P {P : Int → Prop} (h0 : P 0) : ∀ (L : List Int), (∀ c, c ∈ L → P c) → ∀ i, P (L.getD i 0) := by
  intro L
  induction L with
  | nil => intro _ i; simpa using h0
  | cons c L ih =>
    intro h i
    cases i with
    | zero => simpa using h c (List.mem_cons_self ..)
    | succ i => simpa using ih (fun x hx => h x (List.mem_cons_of_mem _ hx)) i
theorem txl_b {b : Int} (hb : 0 ≤ b ∧ b ≤ 11) {k : Nat} (hk : k < 4) {v : Int} (hv : 0 ≤ v ∧ (k = 2 → v < 10000) ∧ (k ≠ 2 → v < 100)) : (∀ c, c ∈ txl b k v → 0 ≤ c ∧ c ≤ 200) ∧ (txl b k v).length ≤ 12 := by
  obtain ⟨u1, u2, u3⟩ := bxl_ok hb
  have hw : (∀ c, c ∈ wrl k → 0 ≤ c ∧ c ≤ 200) ∧ (wrl k).length ≤ 6 ∧ (k = 2 → (wrl k).length = 5) := by
    match k, hk with
    | 0, _ => decide
    | 1, _ => decide
    | 2, _ => decide
    | 3, _ => decide
  have ho : (∀ c, c ∈ odl k v → 0 ≤ c ∧ c ≤ 200) ∧ (odl k v).length ≤ (if k = 2 then 4 else 2) := by
    by_cases c : k = 0
    · subst c
      exact ⟨fun c hc => by simp [odl] at hc, by simp [odl]⟩
    · obtain ⟨o1, o2, o3⟩ := odl_ok hk c hv
      refine ⟨fun x hx => by have := o1 x hx; omega, ?_⟩
      unfold hi4 at o2
      exact o2.2
  unfold txl
  refine ⟨fun c hc => ?_, ?_⟩
  · simp only [List.mem_append, List.mem_cons] at hc
    rcases hc with hc | hc | hc | hc
    · have := u1 c hc; omega
    · omega
    · exact hw.1 c hc
    · exact ho.1 c hc
  · simp only [List.length_append, List.length_cons]
    have h1 := ho.2
    by_cases c : k = 2
    · have := hw.2.2 c
      rw [if_pos c] at h1
      omega
    · rw [if_neg c] at h1
      have := hw.2.1
      omega
/-- the text is read, with or without a sign too many -/
theorem find_n {L E : List Int} {b : Int} (hb : 0 ≤ b ∧ b ≤ 11) {k : Nat} (hk : k < 4) {v : Int} (hv : 0 ≤ v ∧ (k = 2 → v < 10000) ∧ (k ≠ 2 → v < 100)) (hL : Tx X L) (hE : E = [] ∨ E = [120]) (e : L = txl b k v ++ E) :
    ∃ X', (∀ q, q ≠ 1 → X' q = X q) ∧ X' 1 1 = X 1 1 ∧ ((E = [] ∧ fX0_findFault X = some (zI (-1), X') ∧ X' 1 2 = zI b ∧ X' 1 3 = zI (k : Int) ∧ (k ≠ 0 → X' 1 4 = zI v)) ∨ (E ≠ [] ∧ ∃ p : Nat, p + E.length = L.length ∧ fX0_findFault X = some (zI (p : Int), X'))) := by
  have hb2 := txl_b hb hk hv
  have hin : ∀ c, c ∈ L → 0 ≤ c ∧ c ≤ 200 := by
    intro c hc
    rw [e, List.mem_append] at hc
    rcases hc with hc | hc
    · exact hb2.1 c hc
    · rcases hE with rfl | rfl
      · simp at hc
      · simp at hc; omega
  have hP := getD_P (P := fun c => 0 ≤ c ∧ c ≤ 200) (by omega) L hin
  refine parse_n (T := fun i => L.getD i 0) (n := L.length) hL.2.1 (fun i => by have := hP i; show -2147483648 ≤ L.getD i 0 ∧ L.getD i 0 ≤ 2147483647; omega) hL.1 hL.2.2 ?_ hb hk hv ⟨by rw [← e]; omega, fun i hi => by rw [Nat.zero_add, ← e]⟩
  intro c S q
  rcases hE with rfl | rfl
  · cases q
  · cases q; omega
theorem mod_t {X' : Mem} (h1 : ∀ q, q ≠ 1 → X' q = X q) : Tf X X' := fun q a _ => h1 q a
/-- a box by its text -/
theorem addBox_n (h : SR X R σ) (hI : Iv n σ) (hJ : J B σ) (h10 : σ 10 = 0) {o : Int} {k : Nat} {v : Int} (ho : 0 ≤ o ∧ o < σ 0) (hk : k < 4) (hv : 0 ≤ v ∧ (k = 2 → v < 10000) ∧ (k ≠ 2 → v < 100)) (h13 : k = 1 ∨ k = 3 → v < σ 1) (hL : Tx X (txl o k v)) :
    (σ 0 = 12 ∧ ∃ X', fX7_addBox X = some (zI (-3), X') ∧ SR X' R σ) ∨
    (σ 0 < 12 ∧ ∃ X' R' σ', fX7_addBox X = some (zI (σ 0), X') ∧ SR X' R' σ' ∧ Tx X' (txl o k v) ∧ Iv (n + 1) σ' ∧ J B σ' ∧ σ' 0 = σ 0 + 1 ∧ σ' 1 = σ 1 ∧ σ' 10 = 0 ∧ σ' (20 + (σ 0).toNat) = o ∧ σ' (32 + (σ 0).toNat) = k ∧ σ' (44 + (σ 0).toNat) = (if k = 0 then -5 else v) ∧ σ' (56 + (σ 0).toNat) = 0) := by
  have hB := hI.1
  have b0 := hB.1
  obtain ⟨X1, x1, x2, x3⟩ := find_n (E := []) (b := o) (by omega) hk hv hL (Or.inl rfl) (by simp)
  rcases x3 with ⟨-, a1, a2, a3, a4⟩ | ⟨q, -⟩
  · have s1 := h.tx (mod_t x1)
    have fin : (σ 0 = 12 ∧ ∃ X', fX7_addBox_B88 X1 = some (zI (-3), X') ∧ SR X' R σ) ∨ (σ 0 < 12 ∧ ∃ X' R' σ', fX7_addBox_B88 X1 = some (zI (σ 0), X') ∧ SR X' R' σ' ∧ Tx X' (txl o k v) ∧ Iv (n + 1) σ' ∧ J B σ' ∧ σ' 0 = σ 0 + 1 ∧ σ' 1 = σ 1 ∧ σ' 10 = 0 ∧ σ' (20 + (σ 0).toNat) = o ∧ σ' (32 + (σ 0).toNat) = k ∧ σ' (44 + (σ 0).toNat) = (if k = 0 then -5 else v) ∧ σ' (56 + (σ 0).toNat) = 0) := by
      unfold fX7_addBox_B88
      rw [running s1 hI, i1_f (by omega), it0, s1.ro.nb, a2, a3]
      by_cases c : σ 0 = 12
      · rw [if_neg (show ¬ zI (σ 0) < 12 by rw [zc12, zlt] <;> omega)]
        exact Or.inl ⟨c, X1, rfl, s1⟩
      · obtain ⟨X2, R2, σ2, d1, d2, d3, d4, d5, d6, d7, d8, d9, d10, d11, d12⟩ := append_n s1 hI hJ h10 (by omega) (o := o) (k := (k : Int)) (v := if k = 0 then -5 else v) (iv := X1 1 4) ho (by omega) (fun q => by rw [if_pos (by omega)]) (fun q => by rw [if_neg (by omega)]; have := h13 (by omega); omega) (fun q => by rw [if_neg (by omega)]; have := hv.2.1 (by omega); omega) (fun q => by rw [if_neg (by omega)]; exact a4 (by omega))
        rw [if_pos (show zI (σ 0) < 12 by rw [zc12, zlt] <;> omega), d1, bnd_some]
        exact Or.inr ⟨by omega, X2, R2, σ2, rfl, d2, ⟨by rw [d3 1 (by omega), x2]; exact hL.1, hL.2.1, fun i hi => by rw [d3 2 (by omega), x1 2 (by omega)]; exact hL.2.2 i hi⟩, d4, d5, d6, d7, d8, d9, d10, d11, d12⟩
    unfold fX7_addBox
    rw [a1, bnd_some]
    dsimp only
    rw [if_pos (show zI (-1) = -1 from rfl)]
    have mid : ∀ w : Int32, (w = 1 ∧ (k = 1 ∨ k = 3)) ∨ (w = 0 ∧ ¬ (k = 1 ∨ k = 3)) → fX7_addBox_B54 X1 w = fX7_addBox_B88 X1 := by
      intro w hw
      unfold fX7_addBox_B54
      rw [a2, X_hasBox s1.ro hB (by omega) (by omega), i1_t ho, it1]
      rcases hw with ⟨rfl, hk'⟩ | ⟨rfl, hk'⟩
      · have := h13 hk'
        rw [it1, a4 (by omega), X_hasProp s1.ro hB (by omega) (by omega), i1_t (by omega), it1]
      · rw [it0]
    have : k = 0 ∨ k = 1 ∨ k = 2 ∨ k = 3 := by omega
    rcases this with rfl | rfl | rfl | rfl
    · rw [if_neg (show ¬ X1 1 3 = 1 by rw [a3]; decide), if_neg (show ¬ X1 1 3 = 3 by rw [a3]; decide), mid 0 (Or.inr ⟨rfl, by omega⟩)]
      exact fin
    · rw [if_pos (show X1 1 3 = 1 by rw [a3]; decide), mid 1 (Or.inl ⟨rfl, by omega⟩)]
      exact fin
    · rw [if_neg (show ¬ X1 1 3 = 1 by rw [a3]; decide), if_neg (show ¬ X1 1 3 = 3 by rw [a3]; decide), mid 0 (Or.inr ⟨rfl, by omega⟩)]
      exact fin
    · rw [if_neg (show ¬ X1 1 3 = 1 by rw [a3]; decide), if_pos (show X1 1 3 = 3 by rw [a3]; decide), mid 1 (Or.inl ⟨rfl, by omega⟩)]
      exact fin
  · exact absurd rfl q
/-- the text has a sign too many -/
theorem addBoxF_n (h : SR X R σ) {o : Int} {k : Nat} {v : Int} (ho : 0 ≤ o ∧ o ≤ 11) (hk : k < 4) (hv : 0 ≤ v ∧ (k = 2 → v < 10000) ∧ (k ≠ 2 → v < 100)) (hL : Tx X (txl o k v ++ [120])) : ∃ X', fX7_addBox X = some (zI (-100 - ((txl o k v).length : Int)), X') ∧ SR X' R σ := by
  obtain ⟨X1, x1, x2, x3⟩ := find_n (E := [120]) ho hk hv hL (Or.inr rfl) rfl
  rcases x3 with ⟨q, -⟩ | ⟨-, p, hp, a1⟩
  · cases q
  · have hl := txl_b ho hk hv
    have hp' : p = (txl o k v).length := by simp at hp; omega
    subst hp'
    unfold fX7_addBox
    rw [a1, bnd_some]
    dsimp only
    rw [if_neg (show ¬ zI ((txl o k v).length : Int) = -1 by rw [zm1, zeq] <;> omega), zm100, zsub]
    exact ⟨X1, rfl, h.tx (mod_t x1)⟩
end BX
