/-! SETS within a set, one after the other -/
theorem am_half {u d : Nat} (h : ∀ i, u.testBit i = true → d.testBit i = true) : (∀ i, (u / 2).testBit i = true → (d / 2).testBit i = true) ∧ (u % 2 = 1 → d % 2 = 1) := by
  refine ⟨fun i hi => ?_, fun q => ?_⟩
  · rw [Nat.testBit_div_two] at hi ⊢; exact h _ hi
  · have := h 0
    rw [Nat.testBit_zero, Nat.testBit_zero] at this
    simpa using this (by simpa using q)
theorem am_comp : ∀ n d u : Nat, d < n → (∀ i, u.testBit i = true → d.testBit i = true) → u + (d ^^^ u) = d := by
  intro n
  induction n with
  | zero => intro d u h; omega
  | succ n ih =>
    intro d u hd hs
    obtain ⟨h1, h2⟩ := am_half hs
    by_cases hz : d = 0
    · subst hz
      have : u = 0 := by
        apply Nat.eq_of_testBit_eq
        intro i
        cases e : u.testBit i with
        | false => simp
        | true => have := hs i e; simp at this
      subst this
      rfl
    · have e := ih (d / 2) (u / 2) (by omega) h1
      have e2 : (d ^^^ u) / 2 = d / 2 ^^^ u / 2 := Nat.xor_div_two
      have e3 : (d ^^^ u) % 2 = 1 ↔ ¬ (d % 2 = 1 ↔ u % 2 = 1) := Nat.xor_mod_two_eq_one
      rw [← e2] at e
      by_cases hu : u % 2 = 1
      · have hd1 := h2 hu
        have : ¬ (d ^^^ u) % 2 = 1 := fun q => (e3.mp q) ⟨fun _ => hu, fun _ => hd1⟩
        omega
      · by_cases hd1 : d % 2 = 1
        · have : (d ^^^ u) % 2 = 1 := e3.mpr (fun q => hu (q.mp hd1))
          omega
        · have : ¬ (d ^^^ u) % 2 = 1 := fun q => (e3.mp q) ⟨fun z => absurd z hd1, fun z => absurd z hu⟩
          omega
theorem am_and_sub {a b : Nat} (h : ∀ i, a.testBit i = true → b.testBit i = true) : a &&& b = a := by
  apply Nat.eq_of_testBit_eq
  intro i
  rw [Nat.testBit_and]
  cases e : a.testBit i with
  | false => rfl
  | true => rw [h i e]; rfl
theorem am_below : ∀ n c w d : Nat, c < n → (∀ i, c.testBit i = true → d.testBit i = true) → (∀ i, w.testBit i = true → d.testBit i = true) → w < c → w ≤ (c - 1) &&& d := by
  intro n
  induction n with
  | zero => intro c w d h; omega
  | succ n ih =>
    intro c w d hc hs hw hlt
    obtain ⟨h1, h2⟩ := am_half hs
    obtain ⟨h3, h4⟩ := am_half hw
    have e2 : ((c - 1) &&& d) / 2 = (c - 1) / 2 &&& d / 2 := Nat.and_div_two
    by_cases hodd : c % 2 = 1
    · rw [show (c - 1) / 2 = c / 2 by omega, am_and_sub h1] at e2
      omega
    · rw [show (c - 1) / 2 = c / 2 - 1 by omega] at e2
      have e := ih (c / 2) (w / 2) (d / 2) (by omega) h1 h3 (by omega)
      rw [← e2] at e
      have e3 : ((c - 1) &&& d) % 2 = 1 ↔ (c - 1) % 2 = 1 ∧ d % 2 = 1 := Nat.and_mod_two_eq_one
      by_cases hw1 : w % 2 = 1
      · have := e3.mpr ⟨by omega, h4 hw1⟩
        omega
      · omega
def am_nxt (d u : Nat) : Nat := if u = d then 0 else g_dif d (d - u - 1)
theorem am_sub_le {u d : Nat} (h : ∀ i, u.testBit i = true → d.testBit i = true) : u ≤ d := by
  have := am_comp (d + 1) d u (by omega) h
  omega
theorem am_nxt_I {d u : Nat} (h : ∀ i, u.testBit i = true → d.testBit i = true) : (nI u - nI d) &&& nI d = nI (am_nxt d u) := by
  unfold am_nxt
  by_cases e : u = d
  · rw [if_pos e, e]
    have : nI d - nI d = 0 := by grind
    rw [this]
    apply b_ext
    intro i hi
    rw [b_and, b_0, nI_0, b_0]; rfl
  · rw [if_neg e]
    have hle := am_sub_le h
    have e1 : nI d = nI u + nI (d - u - 1) + 1 := by rw [nI_add, nI_1]; congr 1; omega
    have e2 : nI (d - u - 1) ^^^ (-1) = - nI (d - u - 1) - 1 := by
      generalize nI (d - u - 1) = x
      apply Int32.toBitVec_inj.1
      rw [Int32.toBitVec_xor, Int32.toBitVec_sub, Int32.toBitVec_neg]
      show x.toBitVec ^^^ BitVec.allOnes 32 = -x.toBitVec - 1#32
      rw [BitVec.xor_allOnes, BitVec.not_eq_neg_add]
    have e3 : nI u - nI d = nI (d - u - 1) ^^^ (-1) := by rw [e2, e1]; grind
    rw [e3]
    apply b_ext
    intro i hi
    rw [b_and, bt_not hi, bt_nI _ _ hi, bt_nI _ _ hi, bt_nI _ _ hi, g_dif_t, Bool.and_comm]
theorem am_nxt_spec {d u : Nat} (h : ∀ i, u.testBit i = true → d.testBit i = true) (hne : ¬ u = d) : (∀ i, (am_nxt d u).testBit i = true → d.testBit i = true) ∧ u < am_nxt d u ∧ ∀ v, (∀ i, v.testBit i = true → d.testBit i = true) → u < v → am_nxt d u ≤ v := by
  unfold am_nxt
  rw [if_neg hne]
  have hle := am_sub_le h
  have hc : d ^^^ u = d - u := by have := am_comp (d + 1) d u (by omega) h; omega
  have s1 : ∀ i, (d &&& (d - u - 1)).testBit i = true → d.testBit i = true := fun i hi => by
    rw [Nat.testBit_and] at hi
    simp only [Bool.and_eq_true] at hi
    exact hi.1
  have e1 := am_comp (d + 1) d _ (by omega) s1
  have e2 : g_dif d (d - u - 1) = d ^^^ (d &&& (d - u - 1)) := rfl
  have hl : d &&& (d - u - 1) ≤ d - u - 1 := Nat.and_le_right
  have sx : ∀ v, (∀ i, v.testBit i = true → d.testBit i = true) → ∀ i, (d ^^^ v).testBit i = true → d.testBit i = true := fun v hv i hi => by
    rw [Nat.testBit_xor] at hi
    cases e : d.testBit i with
    | true => rfl
    | false =>
      rw [e] at hi
      cases e3 : v.testBit i with
      | true => have := hv i e3; rw [e] at this; cases this
      | false => rw [e3] at hi; cases hi
  refine ⟨fun i hi => ?_, by omega, fun v hv huv => ?_⟩
  · rw [g_dif_t] at hi
    simp only [Bool.and_eq_true] at hi
    exact hi.1
  · have e4 := am_comp (d + 1) d v (by omega) hv
    have e5 := am_below (d + 1) (d - u) (d ^^^ v) d (by omega) (fun i hi => sx u h i (by rw [hc]; exact hi)) (sx v hv) (by omega)
    rw [Nat.and_comm] at e5
    omega
theorem g_cnt_split (P : Nat → Bool) (a : Nat) : ∀ b, g_cnt P (a + b) = g_cnt P a + g_cnt (fun j => P (a + j)) b := by
  intro b
  induction b with
  | zero => rfl
  | succ b ih =>
    rw [← Nat.add_assoc]
    simp only [g_cnt, ih]
    omega
theorem g_cnt_mono (P : Nat → Bool) {a b : Nat} (h : a ≤ b) : g_cnt P a ≤ g_cnt P b := by
  rw [show b = a + (b - a) by omega, g_cnt_split]
  omega
/-- how many sets there are within a set -/
theorem am_many (d : Nat) : ∀ n, g_cnt (fun v => decide (g_dif v d = 0)) (2 ^ n) = 2 ^ (g_pc d n) := by
  intro n
  induction n with
  | zero =>
    show 0 + (if decide (g_dif 0 d = 0) = true then 1 else 0) = 1
    rw [show g_dif 0 d = 0 from g_dif_0.mpr (fun i hi => by simp at hi)]
    rfl
  | succ n ih =>
    rw [Nat.pow_succ, show 2 ^ n * 2 = 2 ^ n + 2 ^ n by omega, g_cnt_split, ih]
    have hj : ∀ j, j < 2 ^ n → decide (g_dif (2 ^ n + j) d = 0) = (d.testBit n && decide (g_dif j d = 0)) := fun j hj => by
      have e : 2 ^ n + j = g_set j n := by
        have := Nat.two_pow_add_eq_or_of_lt hj 1
        rw [Nat.mul_one] at this
        rw [this, Nat.or_comm]
        rfl
      rw [e, Bool.eq_iff_iff, Bool.and_eq_true, decide_eq_true_eq, decide_eq_true_eq, g_dif_0, g_dif_0]
      constructor
      · intro q
        exact ⟨q n (by rw [g_set_t]; simp), fun i hi => q i (by rw [g_set_t, hi]; rfl)⟩
      · rintro ⟨q1, q2⟩ i hi
        rw [g_set_t] at hi
        simp only [Bool.or_eq_true, decide_eq_true_eq] at hi
        rcases hi with z | z
        · exact q2 i z
        · rw [z]; exact q1
    rw [g_cnt_congr (Q := fun j => d.testBit n && decide (g_dif j d = 0)) (2 ^ n) hj]
    simp only [g_pc]
    cases hb : d.testBit n with
    | true =>
      simp only [Bool.true_and, ite_true, Nat.pow_succ]
      rw [ih]
      omega
    | false =>
      rw [g_cnt_zero (2 ^ n) (fun j _ => by rfl)]
      simp
/-- what of some numbers below n comes: how many, what all have, what none has -/
def g_tr (M : Nat → Bool) (d : Nat) : Nat → Nat × Int32 × Int32
  | 0 => (0, nI d, nI d)
  | v + 1 => if g_dif v d = 0 ∧ M v = true then ((g_tr M d v).1 + 1, (g_tr M d v).2.1 &&& nI v, (g_tr M d v).2.2 &&& (nI v ^^^ (-1))) else g_tr M d v
theorem g_tr_le (M : Nat → Bool) (d : Nat) : ∀ n, (g_tr M d n).1 ≤ n := by
  intro n
  induction n with
  | zero => exact Nat.le_refl _
  | succ n ih => simp only [g_tr]; split <;> omega
theorem g_tr_skip (M : Nat → Bool) (d a : Nat) : ∀ b, (∀ v, a ≤ v → v < a + b → ¬ g_dif v d = 0) → g_tr M d (a + b) = g_tr M d a := by
  intro b
  induction b with
  | zero => intro _; rfl
  | succ b ih =>
    intro h
    rw [← Nat.add_assoc]
    simp only [g_tr]
    rw [if_neg (fun q => h (a + b) (by omega) (by omega) q.1)]
    exact ih (fun v h1 h2 => h v h1 (by omega))
theorem am_cmp_eq (x y : Int64) : lg_cmp x y = 0 ↔ x = y := by
  unfold lg_cmp
  by_cases h : x > y
  · rw [if_pos h]
    constructor
    · intro q; exact absurd q (by decide)
    · intro q; subst q; exact absurd h (Int64.lt_irrefl)
  · rw [if_neg h]
    by_cases h2 : x = y
    · simp [h2]
    · rw [if_neg h2]
      constructor
      · intro q; exact absurd q (by decide)
      · intro q; exact absurd q h2
/-- whether a reader leaves this track -/
def g_lv (G : Nat → Nat) (kind snow f n : Nat) (c : Nat → Int64) : Bool := decide (n ≤ g_T G kind snow (G 26) f) && (List.range n).all (fun k => decide ((nI (g_S G kind snow (G 26) f (k + 1)).1).toInt64 = c k))
theorem g_lv_iff {G : Nat → Nat} {kind snow f n : Nat} {c : Nat → Int64} : g_lv G kind snow f n c = true ↔ n ≤ g_T G kind snow (G 26) f ∧ ∀ k, k < n → (nI (g_S G kind snow (G 26) f (k + 1)).1).toInt64 = c k := by
  unfold g_lv
  simp [List.all_eq_true]
