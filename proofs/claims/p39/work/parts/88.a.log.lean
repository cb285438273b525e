/-! the law's look at the log -/
abbrev SS : Type := Int × Int × Int
/-- one sign: the minute that is read, the last one, whether a number is read -/
def sc1 (c : Int) (s : SS) : Option SS :=
  if s.2.2 = 1 then (if c = 58 then (if s.2.1 ≤ s.1 then some (0, s.1, 0) else none) else (if 0 ≤ 10 * s.1 + c - 48 ∧ 10 * s.1 + c - 48 ≤ 100000 then some (10 * s.1 + c - 48, s.2.1, 1) else none))
  else (if c = 47 then some (s.1, s.2.1, 1) else some s)
def scL : List Int → SS → Option SS
  | [], s => some s
  | c :: L, s => bnd (sc1 c s) fun t => scL L t
theorem scL_cons (c : Int) (L : List Int) (s : SS) : scL (c :: L) s = bnd (sc1 c s) fun t => scL L t := rfl
theorem scL_app : ∀ (A L : List Int) (s t : SS), scL A s = some t → scL (A ++ L) s = scL L t := by
  intro A
  induction A with
  | nil => intro L s t h; cases h; rfl
  | cons c A ih =>
    intro L s t h
    rw [List.cons_append, scL_cons]
    rw [scL_cons] at h
    obtain ⟨u, h1, h2⟩ := bnd_ex h
    rw [h1, bnd_some]
    exact ih L u t h2
theorem scL_idle : ∀ (A : List Int) (m l : Int), (∀ c, c ∈ A → c ≠ 47) → scL A (m, l, 0) = some (m, l, 0) := by
  intro A
  induction A with
  | nil => intro m l _; rfl
  | cons c A ih =>
    intro m l h
    rw [scL_cons]
    unfold sc1
    rw [if_neg (show ¬ (0 : Int) = 1 by decide), if_neg (h c (List.mem_cons_self ..)), bnd_some]
    exact ih m l (fun x hx => h x (List.mem_cons_of_mem _ hx))
theorem dl_47 {v : Int} (hv : 0 ≤ v) : ∀ c, c ∈ dl v → c ≠ 47 := by
  intro c hc
  unfold dl at hc
  split at hc
  · simp at hc; omega
  · split at hc
    · simp at hc; omega
    · split at hc
      · simp at hc; omega
      · split at hc
        · simp at hc; omega
        · simp at hc; omega
theorem scL_dl {v l : Int} (hv : 0 ≤ v ∧ v ≤ 120) : scL (dl v) (0, l, 1) = some (v, l, 1) := by
  unfold dl
  by_cases c1 : v < 10
  · rw [if_pos c1]
    unfold scL sc1 scL
    dsimp only
    rw [if_pos rfl, if_neg (by omega), if_pos (by omega), bnd_some]
    congr 2; omega
  · rw [if_neg c1]
    by_cases c2 : v < 100
    · rw [if_pos c2]
      unfold scL sc1 scL sc1 scL
      dsimp only
      rw [if_pos rfl, if_neg (by omega), if_pos (by omega), bnd_some]
      dsimp only
      rw [if_pos rfl, if_neg (by omega), if_pos (by omega), bnd_some]
      congr 2; omega
    · rw [if_neg c2, if_pos (by omega)]
      unfold scL sc1 scL sc1 scL sc1 scL
      dsimp only
      rw [if_pos rfl, if_neg (by omega), if_pos (by omega), bnd_some]
      dsimp only
      rw [if_pos rfl, if_neg (by omega), if_pos (by omega), bnd_some]
      dsimp only
      rw [if_pos rfl, if_neg (by omega), if_pos (by omega), bnd_some]
      congr 2; omega
theorem wl_47 {w : Int} : ∀ c, c ∈ wl w → c ≠ 47 := by
  intro c hc
  unfold wl at hc
  split at hc
  · simp at hc; omega
  · split at hc
    · simp at hc; omega
    · split at hc
      · simp at hc; omega
      · split at hc
        · simp at hc; omega
        · split at hc
          · simp at hc; omega
          · split at hc
            · simp at hc; omega
            · split at hc
              · simp at hc; omega
              · simp at hc; omega
theorem wa_47 {w a b : Int} (ha : 0 ≤ a) (hb : 0 ≤ b) : ∀ c, c ∈ wa w a b → c ≠ 47 := by
  intro c hc
  unfold wa at hc
  split at hc
  · simp only [List.mem_append, List.mem_cons] at hc
    rcases hc with (hc | hc) | (hc | hc)
    · omega
    · exact dl_47 ha c hc
    · omega
    · exact dl_47 hb c hc
  · split at hc
    · simp only [List.mem_cons] at hc
      rcases hc with hc | hc
      · omega
      · exact dl_47 ha c hc
    · simp at hc
theorem scL_sp {mi w a b l : Int} (hE : Ent mi w a b) (hl : l ≤ mi) : scL (sp mi w a b) (0, l, 1) = some (0, mi, 1) := by
  unfold sp
  rw [List.append_assoc, List.append_assoc, scL_app _ _ _ _ (scL_dl (l := l) hE.1), List.cons_append]
  unfold scL sc1
  dsimp only
  rw [if_pos rfl, if_pos rfl, if_pos hl, bnd_some, scL_app _ _ _ _ (scL_idle (wl w) 0 mi wl_47), scL_app _ _ _ _ (scL_idle (wa w a b) 0 mi (wa_47 hE.2.2.1.1 hE.2.2.2.1.1))]
  rfl
theorem scL_lgs {σ : Nat → Int} : ∀ n : Nat, (∀ e, e < n → Ent (σ (402 + 4 * e)) (σ (403 + 4 * e)) (σ (404 + 4 * e)) (σ (405 + 4 * e))) → (∀ e, e + 1 < n → σ (402 + 4 * e) ≤ σ (402 + 4 * (e + 1))) → scL (lgs σ n) (0, 0, 1) = some (0, if n = 0 then 0 else σ (402 + 4 * (n - 1)), 1) := by
  intro n
  induction n with
  | zero => intro _ _; rfl
  | succ n ih =>
    intro hE hs
    have i1 := ih (fun e he => hE e (by omega)) (fun e he => hs e (by omega))
    have he := hE n (by omega)
    unfold lgs spE
    rw [scL_app _ _ _ _ i1, scL_sp he ?_, if_neg (by omega)]
    · rfl
    · by_cases c : n = 0
      · rw [if_pos c]; exact he.1.1
      · rw [if_neg c]
        have := hs (n - 1) (by omega)
        rw [show n - 1 + 1 = n by omega] at this
        exact this
theorem dl_b {v : Int} (hv : 0 ≤ v ∧ v < 100000) : ∀ c, c ∈ dl v → 0 ≤ c ∧ c ≤ 200 := by
  intro c hc
  unfold dl at hc
  split at hc
  · simp at hc; omega
  · split at hc
    · simp at hc; omega
    · split at hc
      · simp at hc; omega
      · split at hc
        · simp at hc; omega
        · simp at hc; omega
theorem wl_b {w : Int} : ∀ c, c ∈ wl w → 0 ≤ c ∧ c ≤ 200 := by
  intro c hc
  unfold wl at hc
  split at hc
  · simp at hc; omega
  · split at hc
    · simp at hc; omega
    · split at hc
      · simp at hc; omega
      · split at hc
        · simp at hc; omega
        · split at hc
          · simp at hc; omega
          · split at hc
            · simp at hc; omega
            · split at hc
              · simp at hc; omega
              · simp at hc; omega
theorem sp_b {mi w a b : Int} (hE : Ent mi w a b) : ∀ c, c ∈ sp mi w a b → 0 ≤ c ∧ c ≤ 200 := by
  obtain ⟨h1, h2, h3, h4, h5⟩ := hE
  intro c hc
  unfold sp wa at hc
  simp only [List.mem_append, List.mem_cons] at hc
  rcases hc with ((hc | hc | hc) | hc) | hc
  · exact dl_b (by omega) c hc
  · omega
  · exact wl_b c hc
  · split at hc
    · simp only [List.mem_append, List.mem_cons] at hc
      rcases hc with (hc | hc) | (hc | hc)
      · omega
      · exact dl_b h3 c hc
      · omega
      · exact dl_b (by omega) c hc
    · split at hc
      · simp only [List.mem_cons] at hc
        rcases hc with hc | hc
        · omega
        · exact dl_b h3 c hc
      · simp at hc
  · simp at hc; omega
theorem lgs_b {σ : Nat → Int} : ∀ n : Nat, (∀ e, e < n → Ent (σ (402 + 4 * e)) (σ (403 + 4 * e)) (σ (404 + 4 * e)) (σ (405 + 4 * e))) → ∀ c, c ∈ lgs σ n → 0 ≤ c ∧ c ≤ 200 := by
  intro n
  induction n with
  | zero => intro _ c hc; simp [lgs] at hc
  | succ n ih =>
    intro hE c hc
    unfold lgs at hc
    rw [List.mem_append] at hc
    rcases hc with hc | hc
    · exact ih (fun e he => hE e (by omega)) c hc
    · exact sp_b (hE n (by omega)) c hc
section LG
variable {X R : Mem} {σ : Nat → Int} {n : Nat} {B : Int}
theorem log_L (h : SR X R σ) (h60 : σ 6 = 60) (hb : ∀ c, c ∈ lgl σ → 0 ≤ c ∧ c ≤ 200) {m' l' : Int} (hl' : l' ≤ 60) : ∀ (d k f : Nat) (m l b : Int), k + d = (lgl σ).length → d < f → (0 ≤ m ∧ m ≤ 100000) → (0 ≤ l ∧ l ≤ 100000) → (b = 0 ∨ b = 1) → scL ((lgl σ).drop k) (m, l, b) = some (m', l', 1) → fL_log_L17 f X (zI ((lgl σ).length : Int)) (zI m) (zI l) (zI b) (zI (k : Int)) = some 1 := by
  have hlen := lgl_len h
  intro d
  induction d with
  | zero =>
    intro k f m l b hk hf hm hl hbb hs
    obtain ⟨f, rfl⟩ := ex_succ hf
    rw [List.drop_eq_nil_of_le (by omega)] at hs
    unfold scL at hs
    injection hs with hs
    injection hs with e1 e2
    injection e2 with e2 e3
    subst e1; subst e2; subst e3
    rw [fL_log_L17, if_pos (show zI ((lgl σ).length : Int) ≤ zI (k : Int) by rw [zle] <;> omega), if_neg (show ¬ zI 1 = 0 by decide), q_logE h, if_pos rfl, q_logN, if_pos rfl, q_c12 h, bnd_some, h60, if_neg (show ¬ zI 60 < zI l by rw [zlt] <;> omega)]
  | succ d ih =>
    intro k f m l b hk hf hm hl hbb hs
    obtain ⟨f, rfl⟩ := ex_succ hf
    have hkl : k < (lgl σ).length := by omega
    have hd : (lgl σ).drop k = (lgl σ).getD k 0 :: (lgl σ).drop (k + 1) := by
      rw [List.drop_eq_getElem_cons hkl]
      congr 1
      rw [List.getD_eq_getElem?_getD, List.getElem?_eq_getElem hkl]
      rfl
    have hc := hb ((lgl σ).getD k 0) (by
      rw [List.getD_eq_getElem?_getD, List.getElem?_eq_getElem hkl]
      exact List.getElem_mem hkl)
    rw [hd] at hs
    unfold scL at hs
    obtain ⟨t, h1, h2⟩ := bnd_ex hs
    unfold sc1 at h1
    dsimp only at h1
    have hq := q_log h hkl
    generalize (lgl σ).getD k 0 = c at *
    rw [fL_log_L17, if_neg (show ¬ zI ((lgl σ).length : Int) ≤ zI (k : Int) by rw [zle] <;> omega), hq]
    rcases hbb with rfl | rfl
    · rw [if_neg (by decide)] at h1
      rw [if_pos (show zI 0 = 0 from rfl), if_pos (show zI 0 = 0 from rfl), zsuc]
      by_cases c47 : c = 47
      · rw [if_pos c47] at h1
        injection h1 with h1
        subst h1
        rw [if_pos (show zI c = 47 by rw [c47]; rfl)]
        exact ih (k + 1) f m l 1 (by omega) (by omega) hm hl (Or.inr rfl) h2
      · rw [if_neg c47] at h1
        injection h1 with h1
        subst h1
        rw [if_neg (show ¬ zI c = 47 by rw [zc47, zeq] <;> omega)]
        exact ih (k + 1) f m l 0 (by omega) (by omega) hm hl (Or.inl rfl) h2
    · rw [if_pos rfl] at h1
      rw [if_neg (show ¬ zI 1 = 0 by decide), zsuc]
      by_cases c58 : c = 58
      · rw [if_pos c58] at h1
        by_cases cl : l ≤ m
        · rw [if_pos cl] at h1
          injection h1 with h1
          subst h1
          rw [if_pos (show zI c = 58 by rw [c58]; rfl), if_pos (show zI l ≤ zI m by rw [zle] <;> omega)]
          exact ih (k + 1) f 0 m 0 (by omega) (by omega) (by omega) hm (Or.inl rfl) h2
        · rw [if_neg cl] at h1; cases h1
      · rw [if_neg c58] at h1
        by_cases cr : 0 ≤ 10 * m + c - 48 ∧ 10 * m + c - 48 ≤ 100000
        · rw [if_pos cr] at h1
          injection h1 with h1
          subst h1
          rw [if_neg (show ¬ zI c = 58 by rw [zc58, zeq] <;> omega), if_neg (show ¬ zI 1 = 0 by decide), zc10, zmul, zadd, zc48, zsub, thn_eq]
          exact ih (k + 1) f _ l 1 (by omega) (by omega) cr hl (Or.inr rfl) h2
        · rw [if_neg cr] at h1; cases h1
theorem log_n (h : SR X R σ) (hI : Iv n σ) (hJ : J B σ) : fL_log X = some 1 := by
  have hN := hI.2.1
  have hE := hI.2.2.2.2.2
  obtain ⟨⟨j6, -⟩, -, -, ⟨l1, l2⟩, -⟩ := hJ.1
  have hs := scL_lgs (σ := σ) (σ 17).toNat hE (fun e he => l2 e (by omega))
  have hlen := lgl_len h
  unfold fL_log
  rw [q_c10 h, bnd_some]
  refine log_L h j6 (lgs_b _ hE) (m' := 0) (l' := if (σ 17).toNat = 0 then 0 else σ (402 + 4 * ((σ 17).toNat - 1))) ?_ (lgl σ).length 0 5000 0 0 1 (by omega) (by omega) (by omega) (by omega) (Or.inr rfl) hs
  split
  · omega
  · exact l1 _ (by omega)
end LG
