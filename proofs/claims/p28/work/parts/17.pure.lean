/-! what of the reference's parts the class needs -/
theorem am_cmp_lt (x y : Int64) : lg_cmp x y < 0 ↔ x < y := by
  unfold lg_cmp
  by_cases h : x > y
  · rw [if_pos h]
    exact ⟨fun q => absurd q (by decide), fun q => absurd (Int64.lt_trans q h) Int64.lt_irrefl⟩
  · rw [if_neg h]
    by_cases h2 : x = y
    · rw [if_pos h2]; subst h2
      exact ⟨fun q => absurd q (by decide), fun q => absurd q Int64.lt_irrefl⟩
    · rw [if_neg h2]
      refine ⟨fun _ => ?_, fun _ => by decide⟩
      rcases Int64.lt_or_eq_of_le (Int64.not_lt.mp h) with z | z
      · exact z
      · exact absurd z h2
theorem am_cmp_gt (x y : Int64) : 0 < lg_cmp x y ↔ y < x := by
  unfold lg_cmp
  by_cases h : x > y
  · rw [if_pos h]; exact ⟨fun _ => h, fun _ => by decide⟩
  · rw [if_neg h]
    by_cases h2 : x = y
    · rw [if_pos h2]; exact ⟨fun q => absurd q (by decide), fun q => absurd q h⟩
    · rw [if_neg h2]; exact ⟨fun q => absurd q (by decide), fun q => absurd q h⟩
theorem WG_e {G : Nat → Nat} (h : WG G) {k : Nat} (hk : k < G 0) : k < 12 ∧ G (1 + k) < 8 ∧ G (13 + k) < 8 := by
  have := h.1
  have := h.2.1 k hk
  omega
theorem g_cnt_lt2 {P Q : Nat → Bool} : ∀ n, (∀ j, j < n → P j = true → Q j = true) → (∃ w, w < n ∧ P w = false ∧ Q w = true) → g_cnt P n < g_cnt Q n := by
  have le : ∀ n, (∀ j, j < n → P j = true → Q j = true) → g_cnt P n ≤ g_cnt Q n := by
    intro n
    induction n with
    | zero => intro _; exact Nat.le_refl _
    | succ n ih =>
      intro h
      have := ih (fun j hj => h j (by omega))
      simp only [g_cnt]
      by_cases hp : P n = true
      · rw [if_pos hp, if_pos (h n (by omega) hp)]; omega
      · rw [if_neg hp]; split <;> omega
  intro n
  induction n with
  | zero => rintro _ ⟨w, h, _⟩; omega
  | succ n ih =>
    rintro h ⟨w, hw, h1, h2⟩
    simp only [g_cnt]
    rcases Nat.lt_or_ge w n with z | z
    · have := ih (fun j hj => h j (by omega)) ⟨w, z, h1, h2⟩
      by_cases hp : P n = true
      · rw [if_pos hp, if_pos (h n (by omega) hp)]; omega
      · rw [if_neg hp]; split <;> omega
    · have e : w = n := by omega
      subst e
      have := le w (fun j hj => h j (by omega))
      rw [h1, h2]
      simp; omega
theorem g_R7 {E : Nat → Nat → Bool} {h : Nat} (hh : h < 8) {m q : Nat} (hq : q < 8) (hr : g_R E h m q = true) : g_R E h 7 q = true := by
  have key : ∀ k, (∃ j, j < k ∧ ∀ i, i < 8 → g_R E h (j + 1) i = true → g_R E h j i = true) ∨ k + 1 ≤ g_cnt (fun i => g_R E h k i) 8 := by
    intro k
    induction k with
    | zero =>
      right
      have : g_cnt (fun _ => false) 8 < g_cnt (fun i => g_R E h 0 i) 8 := g_cnt_lt2 8 (fun j _ z => by cases z) ⟨h, hh, rfl, by simp [g_R]⟩
      omega
    | succ k ih =>
      rcases ih with ⟨j, a, b⟩ | a
      · exact Or.inl ⟨j, by omega, b⟩
      · by_cases hs : ∀ i, i < 8 → g_R E h (k + 1) i = true → g_R E h k i = true
        · exact Or.inl ⟨k, by omega, hs⟩
        · right
          have : ∃ w, w < 8 ∧ g_R E h k w = false ∧ g_R E h (k + 1) w = true := by
            apply Classical.byContradiction
            intro hn
            apply hs
            intro i hi h1
            cases hk : g_R E h k i with
            | true => rfl
            | false => exact absurd ⟨i, hi, hk, h1⟩ hn
          have := g_cnt_lt2 (P := fun i => g_R E h k i) (Q := fun i => g_R E h (k + 1) i) 8 (fun j _ z => g_R_mono (Nat.le_succ k) z) this
          omega
  rcases key 8 with ⟨j, a, b⟩ | a
  · rcases Nat.lt_or_ge m j with z | z
    · exact g_R_mono (by omega) hr
    · have := g_stable b (m - j) q hq (by rw [show j + (m - j) = m by omega]; exact hr)
      exact g_R_mono (by omega) this
  · have := g_cnt_le (fun i => g_R E h 8 i) 8
    omega
theorem am_pigeon (f : Nat → Nat) (N : Nat) : ∀ i, (∀ j, j < i → f j < N) → (∀ j k, k < j → j < i → ¬ f k = f j) → i ≤ N := by
  have key : ∀ i, (∀ j, j < i → f j < N) → (∀ j k, k < j → j < i → ¬ f k = f j) → g_cnt (fun s => (List.range i).any (fun j => decide (f j = s))) N = i := by
    intro i
    induction i with
    | zero => intro _ _; exact g_cnt_zero N (fun j _ => rfl)
    | succ i ih =>
      intro h1 h2
      have e := ih (fun j hj => h1 j (by omega)) (fun j k a b => h2 j k a (by omega))
      rw [g_cnt_add (P := fun s => (List.range i).any (fun j => decide (f j = s))) (w := f i) ?_ ?_ ?_ N (h1 i (by omega)), e]
      · rw [Bool.eq_false_iff]
        intro hz
        rw [List.any_eq_true] at hz
        obtain ⟨j, a, b⟩ := hz
        rw [List.mem_range] at a
        exact h2 i j a (by omega) (by simpa using b)
      · rw [List.any_eq_true]
        exact ⟨i, List.mem_range.mpr (by omega), by simp⟩
      · intro s hs
        simp only [List.range_succ, List.any_append]
        have : ¬ f i = s := fun z => hs z.symm
        simp [this]
  intro i h1 h2
  rw [← key i h1 h2]
  exact g_cnt_le _ N
theorem g_S_bound {G : Nat → Nat} {kind snow stones f i : Nat} (hX : JX G kind stones f) (h : ∀ j, j < i → g_end G (g_S G kind snow stones f) j = 3) : i ≤ 32768 := by
  have hlt := g_S_lt (snow := snow) (kind := kind) hX.1 hX.2.2.1 hX.2.2.2
  refine am_pigeon (fun j => (g_S G kind snow stones f j).1 * 4096 + (g_S G kind snow stones f j).2) 32768 i (fun j _ => ?_) (fun j k hk hj e => ?_)
  · have := hlt j; omega
  · have a := hlt j
    have b := hlt k
    have hs := (g_end_3 (h j hj)).2.1
    have e2 : g_S G kind snow stones f k = g_S G kind snow stones f j := Prod.ext (by omega) (by omega)
    have : g_sn (g_S G kind snow stones f) j (g_S G kind snow stones f j) = true := by
      unfold g_sn
      rw [List.any_eq_true]
      exact ⟨k, List.mem_range.mpr hk, by simp [e2]⟩
    rw [hs] at this
    cases this
