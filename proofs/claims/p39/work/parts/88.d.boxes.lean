/-! the law's look at boxes and props -/
def sm (f : Nat → Nat) : Nat → Nat
  | 0 => 0
  | n + 1 => sm f n + f n
theorem cnt_add {P Q S : Nat → Bool} : ∀ m : Nat, (∀ i, (S i = (P i || Q i)) ∧ (P i && Q i) = false) → cnt S m = cnt P m + cnt Q m := by
  intro m hh
  induction m with
  | zero => rfl
  | succ m ih =>
    obtain ⟨h1, h2⟩ := hh m
    unfold cnt
    rw [ih, h1]
    cases hp : P m <;> cases hq : Q m <;> simp_all <;> omega
theorem cnt_part {P Q : Nat → Bool} : ∀ m : Nat, (∀ i, i < m → (P i || Q i) = true ∧ (P i && Q i) = false) → cnt P m + cnt Q m = m := by
  intro m
  induction m with
  | zero => intro _; rfl
  | succ m ih =>
    intro hh
    obtain ⟨h1, h2⟩ := hh m (by omega)
    have := ih (fun i hi => hh i (by omega))
    unfold cnt
    cases hp : P m <;> cases hq : Q m <;> simp_all <;> omega
theorem sm_cnt (f : Nat → Int) (N : Nat) : ∀ nb : Nat, sm (fun b => cnt (fun p => decide (f p = (b : Int))) N) nb = cnt (fun p => decide (0 ≤ f p ∧ f p < (nb : Int))) N := by
  intro nb
  induction nb with
  | zero =>
    show 0 = _
    rw [cnt_0]
    intro i _
    simp only [decide_eq_false_iff_not]
    omega
  | succ nb ih =>
    show sm _ nb + _ = _
    rw [ih]
    refine (cnt_add N fun i => ?_).symm
    by_cases a : 0 ≤ f i ∧ f i < (nb : Int)
    · rw [decide_eq_true a, decide_eq_false (show ¬ f i = (nb : Int) by omega), decide_eq_true (show 0 ≤ f i ∧ f i < ((nb + 1 : Nat) : Int) by omega)]
      exact ⟨rfl, rfl⟩
    · by_cases b : f i = (nb : Int)
      · rw [decide_eq_false a, decide_eq_true b, decide_eq_true (show 0 ≤ f i ∧ f i < ((nb + 1 : Nat) : Int) by omega)]
        exact ⟨rfl, rfl⟩
      · rw [decide_eq_false a, decide_eq_false b, decide_eq_false (show ¬ (0 ≤ f i ∧ f i < ((nb + 1 : Nat) : Int)) by omega)]
        exact ⟨rfl, rfl⟩
section BQ
variable {X R : Mem} {σ : Nat → Int} {n : Nat} {B : Int}
theorem ao_0 (h : SR X R σ) (hI : Iv n σ) : ∀ f b : Nat, b < f → (b : Int) < σ 0 → fL_allOpen_L4 f X 0 (zI (b : Int)) = some 0 := by
  have hB := hI.1
  have h0 := hB.1
  intro f
  induction f with
  | zero => intro b hb; omega
  | succ f ih =>
    intro b hb hb2
    rw [fL_allOpen_L4]
    by_cases c : b = 0
    · subst c
      rw [if_pos (show zI ((0 : Nat) : Int) ≤ 0 by decide)]
    · have ho := bo hB (b := b) (by omega) hb2
      obtain ⟨o, ho2⟩ : ∃ o : Nat, σ (20 + b) = o := ⟨(σ (20 + b)).toNat, by omega⟩
      rw [if_neg (show ¬ zI (b : Int) ≤ 0 by rw [zc0, zle] <;> omega), if_pos rfl, q_box0 h hI hb2, bnd_some, if_neg c, ho2]
      exact ih o (by omega) (by omega)
theorem ao_1 (h : SR X R σ) (hI : Iv n σ) : ∀ f b : Nat, b < f → (b : Int) < σ 0 → fL_allOpen_L4 f X 1 (zI (b : Int)) = some (i1 (cf σ b = 0)) := by
  have hB := hI.1
  have h0 := hB.1
  intro f
  induction f with
  | zero => intro b hb; omega
  | succ f ih =>
    intro b hb hb2
    rw [fL_allOpen_L4]
    have z := cf_zero hB hb2
    by_cases c : b = 0
    · subst c
      rw [if_pos (show zI ((0 : Nat) : Int) ≤ 0 by decide), i1_t (z.2 ⟨hB.2.2.2.1.1, Or.inl rfl⟩)]
    · have ho := bo hB (b := b) (by omega) hb2
      have hop := bop hB (b := b) (by omega)
      obtain ⟨o, ho2⟩ : ∃ o : Nat, σ (20 + b) = o := ⟨(σ (20 + b)).toNat, by omega⟩
      have hot : (σ (20 + b)).toNat = o := by omega
      rw [if_neg (show ¬ zI (b : Int) ≤ 0 by rw [zc0, zle] <;> omega), if_neg (by decide), q_box2 h hI hb2, bnd_some, q_box0 h hI hb2, bnd_some, bnd_some, if_neg c, ho2]
      by_cases c1 : σ (56 + b) = 1
      · rw [if_pos (show zI (σ (56 + b)) = 1 by rw [c1]; rfl), ih o (by omega) (by omega)]
        refine congrArg some (i1_c ?_)
        rw [z]
        unfold bh
        rw [hot]
        exact ⟨fun q => ⟨c1, Or.inr q⟩, fun q => q.2.resolve_left c⟩
      · rw [if_neg (show ¬ zI (σ (56 + b)) = 1 by rw [zc1, zeq] <;> omega), ao_0 h hI f o (by omega) (by omega), i1_f (fun q => c1 (z.1 q).1)]
theorem allOpen_n (h : SR X R σ) (hI : Iv n σ) {b : Nat} (hb : (b : Int) < σ 0) : fL_allOpen X (zI (b : Int)) = some (i1 (cf σ b = 0)) := by
  have h0 := hI.1.1
  exact ao_1 h hI 5000 b (by omega) hb
def lyb (σ : Nat → Int) (b : Nat) : Nat := cnt (fun p => decide (σ (104 + p) = (b : Int))) (σ 1).toNat
def otb (σ : Nat → Int) (b : Nat) : Nat := cnt (fun c => decide (1 ≤ c ∧ σ (20 + c) = (b : Int))) (σ 0).toNat
theorem lyb_s (hB : RB σ) : (sm (lyb σ) (σ 0).toNat : Int) + (heldN σ : Int) = σ 1 := by
  have h0 := hB.1
  have e : sm (lyb σ) (σ 0).toNat = cnt (fun p => decide (0 ≤ σ (104 + p) ∧ σ (104 + p) < ((σ 0).toNat : Int))) (σ 1).toNat := sm_cnt (fun p => σ (104 + p)) (σ 1).toNat (σ 0).toNat
  have q := cnt_part (P := fun p => decide (0 ≤ σ (104 + p) ∧ σ (104 + p) < ((σ 0).toNat : Int))) (Q := fun p => decide (σ (104 + p) = -1)) (σ 1).toNat (fun i hi => by
    have := pr hB (p := i) (by omega)
    by_cases a : σ (104 + i) = -1
    · simp only [decide_eq_true a, decide_eq_false (show ¬ (0 ≤ σ (104 + i) ∧ σ (104 + i) < ((σ 0).toNat : Int)) by omega)]
      exact ⟨rfl, rfl⟩
    · simp only [decide_eq_false a, decide_eq_true (show (0 ≤ σ (104 + i) ∧ σ (104 + i) < ((σ 0).toNat : Int)) by omega)]
      exact ⟨rfl, rfl⟩)
  unfold heldN
  rw [e]
  omega
theorem otb_s (hB : RB σ) : (sm (otb σ) (σ 0).toNat : Int) = σ 0 - 1 := by
  have h0 := hB.1
  have e0 : (otb σ) = fun b : Nat => cnt (fun c => decide ((if c = 0 then (-1 : Int) else σ (20 + c)) = (b : Int))) (σ 0).toNat := by
    funext b
    refine cnt_c _ fun c _ => ?_
    by_cases a : c = 0
    · subst a
      rw [if_pos rfl, decide_eq_false (show ¬ (1 ≤ 0 ∧ σ (20 + 0) = (b : Int)) by omega), decide_eq_false (show ¬ (-1 : Int) = (b : Int) by omega)]
    · rw [if_neg a]
      by_cases e : σ (20 + c) = (b : Int)
      · rw [decide_eq_true e, decide_eq_true (show 1 ≤ c ∧ σ (20 + c) = (b : Int) from ⟨by omega, e⟩)]
      · rw [decide_eq_false e, decide_eq_false (show ¬ (1 ≤ c ∧ σ (20 + c) = (b : Int)) from fun q => e q.2)]
  have e : sm (otb σ) (σ 0).toNat = cnt (fun c => decide (0 ≤ (if c = 0 then (-1 : Int) else σ (20 + c)) ∧ (if c = 0 then (-1 : Int) else σ (20 + c)) < ((σ 0).toNat : Int))) (σ 0).toNat := by
    rw [e0]
    exact sm_cnt (fun c => if c = 0 then (-1 : Int) else σ (20 + c)) (σ 0).toNat (σ 0).toNat
  have q := cnt_part (P := fun c => decide (0 ≤ (if c = 0 then (-1 : Int) else σ (20 + c)) ∧ (if c = 0 then (-1 : Int) else σ (20 + c)) < ((σ 0).toNat : Int))) (Q := fun c => decide (c = 0)) (σ 0).toNat (fun i hi => by
    by_cases a : i = 0
    · subst a
      exact ⟨rfl, rfl⟩
    · have := bo hB (b := i) (by omega) (by omega)
      simp only [if_neg a, decide_eq_false a, decide_eq_true (show (0 ≤ σ (20 + i) ∧ σ (20 + i) < ((σ 0).toNat : Int)) by omega)]
      exact ⟨rfl, rfl⟩)
  have o : ∀ m : Nat, cnt (fun c => decide (c = 0)) (m + 1) = 1 := by
    intro m
    induction m with
    | zero => rfl
    | succ m ih => rw [cnt_f (i := m + 1) (by simp), ih]
  obtain ⟨k, hk⟩ : ∃ k : Nat, (σ 0).toNat = k + 1 := ⟨(σ 0).toNat - 1, by omega⟩
  have o' := o k
  rw [← hk] at o'
  omega
theorem box_L (h : SR X R σ) (hI : Iv n σ) : ∀ d i f : Nat, (i : Int) + d = σ 0 → d < f → fL_boxes_L9 f X (zI ((cnt (fun b => decide (1 ≤ b ∧ σ (56 + b) = 1)) i : Nat) : Int)) (zI ((sm (lyb σ) i : Nat) : Int)) (zI ((sm (otb σ) i : Nat) : Int)) (zI (i : Int)) = fL_boxes_L158 5000 X (zI ((opn σ : Nat) : Int)) (zI ((sm (lyb σ) (σ 0).toNat : Nat) : Int)) (zI ((sm (otb σ) (σ 0).toNat : Nat) : Int)) 0 0 0 0 := by
  have hB := hI.1
  have h0 := hB.1
  intro d
  induction d with
  | zero =>
    intro i f hi hf
    obtain ⟨f, rfl⟩ := ex_succ hf
    have e : i = (σ 0).toNat := by omega
    rw [fL_boxes_L9, q_c0 h, bnd_some, if_pos (show zI (σ 0) ≤ zI (i : Int) by rw [zle] <;> omega)]
    unfold opn
    rw [e]
  | succ d ih =>
    intro i f hi hf
    obtain ⟨f, rfl⟩ := ex_succ hf
    have hi2 : (i : Int) < σ 0 := by omega
    have q := ih (i + 1) f (by omega) (by omega)
    have e4 := q_box4 h hI hi2
    have e5 := q_box5 h hI hi2
    rw [fL_boxes_L9, q_c0 h, bnd_some, if_neg (show ¬ zI (σ 0) ≤ zI (i : Int) by rw [zle] <;> omega), q_box0 h hI hi2, bnd_some]
    by_cases c : i = 0
    · rw [cnt_f (i := i) (by simp only [decide_eq_false_iff_not]; omega)] at q
      have y0 : zI (i : Int) ≤ 0 := by rw [zc0, zle] <;> omega
      rw [if_pos c, if_pos (show zI (i : Int) = 0 by rw [c]; rfl), q_box3 h hI hi2, bnd_some, i1_t (show bh σ i from Or.inl c), if_pos rfl, if_pos y0, q_box8 h hI hi2, bnd_some, if_pos rfl, if_pos y0, e4, bnd_some, e5, bnd_some, z_0, zadd, zadd, zsuc]
      exact q
    · have n0 : ¬ zI (i : Int) ≤ 0 := by rw [zc0, zle] <;> omega
      have ho := bo hB (b := i) (by omega) hi2
      have hop := bop hB (b := i) (by omega)
      obtain ⟨o, ho2⟩ : ∃ o : Nat, σ (20 + i) = o := ⟨(σ (20 + i)).toNat, by omega⟩
      have hot : (σ (20 + i)).toNat = o := by omega
      have hbh : bh σ i ↔ cf σ o = 0 := by
        unfold bh
        rw [hot]
        exact ⟨fun q => q.resolve_left c, Or.inr⟩
      have q1 : fL_boxes_L9 f X (zI ((cnt (fun b => decide (1 ≤ b ∧ σ (56 + b) = 1)) i : Nat) : Int) + zI (σ (56 + i))) (zI ((sm (lyb σ) i : Nat) : Int) + zI ((lyb σ i : Nat) : Int)) (zI ((sm (otb σ) i : Nat) : Int) + zI ((otb σ i : Nat) : Int)) (zI (i : Int) + 1) = fL_boxes_L158 5000 X (zI ((opn σ : Nat) : Int)) (zI ((sm (lyb σ) (σ 0).toNat : Nat) : Int)) (zI ((sm (otb σ) (σ 0).toNat : Nat) : Int)) 0 0 0 0 := by
        rw [zadd, zadd, zadd, zsuc]
        rcases hop with e | e
        · rw [cnt_f (i := i) (by simp only [decide_eq_false_iff_not]; omega)] at q
          rw [e, show (((cnt (fun b => decide (1 ≤ b ∧ σ (56 + b) = 1)) i : Nat) : Int) + 0) = ((cnt (fun b => decide (1 ≤ b ∧ σ (56 + b) = 1)) i : Nat) : Int) by omega]
          exact q
        · rw [cnt_t (i := i) (by simp only [decide_eq_true_eq]; omega)] at q
          rw [e]
          exact q
      have no1 : ¬ zI (o : Int) < 0 := by rw [zc0, zlt] <;> omega
      have no2 : ¬ zI (i : Int) ≤ zI (o : Int) := by rw [zle] <;> omega
      rw [if_neg c, if_neg (show ¬ zI (i : Int) = 0 by rw [zc0, zeq] <;> omega), ho2, allOpen_n h hI (by omega), bnd_some]
      by_cases cz : cf σ o = 0
      · rw [i1_t cz, if_neg (by decide), q_box3 h hI hi2, bnd_some, i1_t (hbh.2 cz), if_pos rfl, if_neg n0, if_neg no1, if_neg no2, q_box8 h hI hi2, bnd_some, if_pos rfl, if_neg n0, q_box2 h hI hi2, bnd_some, e4, bnd_some, e5, bnd_some]
        exact q1
      · rw [i1_f cz, if_pos rfl, q_box3 h hI hi2, bnd_some, i1_f (fun z => cz (hbh.1 z)), if_pos rfl, if_neg n0, if_neg no1, if_neg no2, q_box8 h hI hi2, bnd_some, if_pos rfl, if_neg n0, q_box2 h hI hi2, bnd_some, e4, bnd_some, e5, bnd_some]
        exact q1
theorem b427_n (h : SR X R σ) (hI : Iv n σ) : fL_boxes_B427 X (zI ((opn σ : Nat) : Int)) (zI ((sm (lyb σ) (σ 0).toNat : Nat) : Int)) (zI ((sm (otb σ) (σ 0).toNat : Nat) : Int)) (zI ((awy σ : Nat) : Int)) (zI ((heldN σ : Nat) : Int)) 1 = some 1 := by
  have hB := hI.1
  have e1 := lyb_s hB
  have e2 := otb_s hB
  unfold fL_boxes_B427
  rw [if_neg (by decide), q_d0 h hI, bnd_some, if_pos rfl, q_d1 h hI, bnd_some, if_pos rfl, q_c1 h, bnd_some, zadd, e1, if_pos rfl, q_c0 h, bnd_some, zc1, zsub, e2, if_pos rfl]
theorem prop_L (h : SR X R σ) (hI : Iv n σ) (hJ : J B σ) : ∀ d i f : Nat, (i : Int) + d = σ 1 → d < f → fL_boxes_L158 f X (zI ((opn σ : Nat) : Int)) (zI ((sm (lyb σ) (σ 0).toNat : Nat) : Int)) (zI ((sm (otb σ) (σ 0).toNat : Nat) : Int)) (zI ((cnt (fun p => decide (σ (104 + p) ≠ σ (80 + p))) i : Nat) : Int)) (zI ((cnt (fun p => decide (σ (104 + p) = -1)) i : Nat) : Int)) (hbs σ i) (zI (i : Int)) = some 1 := by
  have hB := hI.1
  have h0 := hB.1
  have hN := hI.2.1
  intro d
  induction d with
  | zero =>
    intro i f hi hf
    obtain ⟨f, rfl⟩ := ex_succ hf
    have e : i = (σ 1).toNat := by omega
    have fin := b427_n h hI
    have ea : cnt (fun p => decide (σ (104 + p) ≠ σ (80 + p))) i = awy σ := by rw [e]; rfl
    have eh : cnt (fun p => decide (σ (104 + p) = -1)) i = heldN σ := by rw [e]; rfl
    rw [fL_boxes_L158, q_c1 h, bnd_some, if_pos (show zI (σ 1) ≤ zI (i : Int) by rw [zle] <;> omega), q_c14 h hI, bnd_some, ea, eh, e]
    by_cases c : σ 10 = 1
    · have hj := jheld hJ c
      have hp := (hI.2.2.1 c).1
      have h67 := hJ.1.1
      rw [i1_t c, if_pos rfl]
      unfold fL_boxes_B310
      rw [if_neg (by decide), q_game4 h hI c, bnd_some, if_pos rfl, q_game0 h hI c, bnd_some, if_neg (show ¬ zI (σ 11) < zI ((heldN σ : Nat) : Int) by rw [zlt] <;> omega), q_game2 h hI c, bnd_some, if_neg (show ¬ zI (σ 13 + σ 6 - σ 9) < 0 by rw [zc0, zlt] <;> omega), bnd_some, q_c12 h, bnd_some, if_neg (show ¬ zI (σ 6) < zI (σ 13 + σ 6 - σ 9) by rw [zlt] <;> omega), q_game1 h hI c, bnd_some, bnd_some, q_c5 h, bnd_some, bnd_some, zadd, zsub, if_pos rfl, q_game3 h hI c, bnd_some, q_c13 h, bnd_some, if_neg (show ¬ zI (σ 7) < zI (σ 14) by rw [zlt] <;> omega)]
      exact fin
    · have hz : heldN σ = 0 := cnt_0 _ (fun p hp => by
        have := hI.2.2.2.1 (by omega) p (by omega)
        simp only [decide_eq_false_iff_not]
        omega)
      rw [i1_f c, if_neg (by decide)]
      unfold fL_boxes_B310
      rw [if_pos rfl, if_pos (show zI ((heldN σ : Nat) : Int) = 0 by rw [hz]; rfl), q_game_off h hI c, bnd_some, if_pos rfl]
      exact fin
  | succ d ih =>
    intro i f hi hf
    obtain ⟨f, rfl⟩ := ex_succ hf
    have hi2 : (i : Int) < σ 1 := by omega
    have q := ih (i + 1) f (by omega) (by omega)
    have k := pr hB (p := i) hi2
    rw [fL_boxes_L158, q_c1 h, bnd_some, if_neg (show ¬ zI (σ 1) ≤ zI (i : Int) by rw [zle] <;> omega), q_prop1 h hI hi2, bnd_some]
    by_cases c : σ (104 + i) = -1
    · have hph : ph σ i := by
        unfold ph
        rw [c]
        exact (cf_zero hB (b := 0) (by omega)).2 ⟨hB.2.2.2.1.1, Or.inl rfl⟩
      rw [cnt_t (P := fun p => decide (σ (104 + p) = -1)) (i := i) (by simpa using c), cnt_t (P := fun p => decide (σ (104 + p) ≠ σ (80 + p))) (i := i) (by simp only [decide_eq_true_eq]; omega)] at q
      have eh : hbs σ (i + 1) = hbs σ i ||| ((1 : Int32) <<< (zI (i : Int) &&& 31)) := by rw [hbs, if_pos c]
      rw [eh] at q
      have n5 : ¬ (0 : Int32) ≤ zI (-5) := by decide
      rw [if_pos c, if_pos (show zI (-5) < 0 by decide), q_prop0 h hI hi2, bnd_some, if_neg (show ¬ zI (-5) = zI (σ (80 + i)) by rw [zeq] <;> omega), if_neg n5, if_neg n5, thn_eq, q_prop2 h hI hi2, bnd_some, i1_t hph, if_pos rfl, if_neg n5, if_pos (show zI (-5) = (-5 : Int32) from rfl), zc1, zadd, zadd, zadd]
      exact q
    · obtain ⟨b, hb⟩ : ∃ b : Nat, σ (104 + i) = b := ⟨(σ (104 + i)).toNat, by omega⟩
      have hbt : (σ (104 + i)).toNat = b := by omega
      have hph : ph σ i ↔ cf σ b = 0 := by unfold ph; rw [hbt]
      have n0 : ¬ zI (b : Int) < 0 := by rw [zc0, zlt] <;> omega
      have y0 : (0 : Int32) ≤ zI (b : Int) := by rw [zc0, zle] <;> omega
      rw [cnt_f (P := fun p => decide (σ (104 + p) = -1)) (i := i) (by simpa using c)] at q
      have eh : hbs σ (i + 1) = hbs σ i := by rw [hbs, if_neg c]
      rw [eh] at q
      rw [if_neg c, hb, if_neg n0, allOpen_n h hI (by omega), bnd_some]
      by_cases ca : σ (104 + i) = σ (80 + i)
      · rw [cnt_f (P := fun p => decide (σ (104 + p) ≠ σ (80 + p))) (i := i) (by simpa using ca)] at q
        have yh : zI (b : Int) = zI (σ (80 + i)) := by rw [← ca, hb]
        by_cases cz : cf σ b = 0
        · rw [i1_t cz, if_neg (by decide), q_prop0 h hI hi2, bnd_some, if_pos yh, if_pos y0, if_pos y0, q_prop2 h hI hi2, bnd_some, i1_t (hph.2 cz), if_pos rfl, if_pos y0, z_0, z_0, Int32.or_zero, zsuc]
          exact q
        · rw [i1_f cz, if_pos rfl, q_prop0 h hI hi2, bnd_some, if_pos yh, if_pos y0, if_pos y0, q_prop2 h hI hi2, bnd_some, i1_f (fun z => cz (hph.1 z)), if_pos rfl, if_pos y0, z_0, z_0, Int32.or_zero, zsuc]
          exact q
      · rw [cnt_t (P := fun p => decide (σ (104 + p) ≠ σ (80 + p))) (i := i) (by simpa using ca)] at q
        have nh : ¬ zI (b : Int) = zI (σ (80 + i)) := by rw [zeq] <;> omega
        by_cases cz : cf σ b = 0
        · rw [i1_t cz, if_neg (by decide), q_prop0 h hI hi2, bnd_some, if_neg nh, if_pos y0, if_pos y0, q_prop2 h hI hi2, bnd_some, i1_t (hph.2 cz), if_pos rfl, if_pos y0, z_0, Int32.or_zero, zsuc, zsuc]
          exact q
        · rw [i1_f cz, if_pos rfl, q_prop0 h hI hi2, bnd_some, if_neg nh, if_pos y0, if_pos y0, q_prop2 h hI hi2, bnd_some, i1_f (fun z => cz (hph.1 z)), if_pos rfl, if_pos y0, z_0, Int32.or_zero, zsuc, zsuc]
          exact q
theorem boxes_n (h : SR X R σ) (hI : Iv n σ) (hJ : J B σ) : fL_boxes X = some 1 := by
  have hB := hI.1
  have h0 := hB.1
  unfold fL_boxes
  have q := box_L h hI (σ 0).toNat 0 5000 (by omega) (by omega)
  have q2 := prop_L h hI hJ (σ 1).toNat 0 5000 (by omega) (by omega)
  exact q.trans q2
end BQ
