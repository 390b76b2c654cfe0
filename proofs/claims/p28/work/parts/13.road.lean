/-! THE ROAD as a row of numbers G: 0 how many ways, 1.. lesser ends, 13.. greater ends, 25 doubtful, 26 stones, 27.. sides, 35.. abouts, 43 home, 44 snow -/
def g_set (b k : Nat) : Nat := b ||| 2 ^ k
def g_clr (b k : Nat) : Nat := if b.testBit k = true then b ^^^ 2 ^ k else b
theorem g_set_t (b k i : Nat) : (g_set b k).testBit i = (b.testBit i || decide (i = k)) := by
  unfold g_set
  rw [Nat.testBit_or, Nat.testBit_two_pow]
  by_cases h : i = k
  · simp [h]
  · simp [h, Ne.symm h]
theorem g_clr_t (b k i : Nat) : (g_clr b k).testBit i = (b.testBit i && !decide (i = k)) := by
  unfold g_clr
  by_cases hb : b.testBit k = true
  · rw [if_pos hb, Nat.testBit_xor, Nat.testBit_two_pow]
    by_cases h : i = k
    · subst h; simp [hb]
    · simp [h, Ne.symm h]
  · rw [if_neg hb]
    by_cases h : i = k
    · subst h; simpa using hb
    · simp [h]
theorem g_set_lt {b k n : Nat} (hb : b < 2 ^ n) (hk : k < n) : g_set b k < 2 ^ n := Nat.or_lt_two_pow hb (Nat.pow_lt_pow_right (by omega) hk)
theorem g_clr_lt {b k n : Nat} (hb : b < 2 ^ n) (hk : k < n) : g_clr b k < 2 ^ n := by
  unfold g_clr
  split
  · exact Nat.xor_lt_two_pow hb (Nat.pow_lt_pow_right (by omega) hk)
  · exact hb
theorem g_set_I (b : Nat) {k : Nat} (hk : k < 32) : nI b ||| ((1 : Int32) <<< (nI k &&& 31)) = nI (g_set b k) := by
  apply b_ext
  intro i hi
  rw [b_or, bt_nI _ _ hi, bt_one hk hi, bt_nI _ _ hi, g_set_t]
theorem g_clr_I (b : Nat) {k : Nat} (hk : k < 32) : nI b &&& (((1 : Int32) <<< (nI k &&& 31)) ^^^ (-1)) = nI (g_clr b k) := by
  apply b_ext
  intro i hi
  rw [b_and, bt_nI _ _ hi, bt_not hi, bt_one hk hi, bt_nI _ _ hi, g_clr_t]
theorem f_bit_nI (m : Nat) {k : Nat} (hk : k < 32) : f_bit (nI m) (nI k) = am_b (m.testBit k = true) := by
  rw [f_bit_eq _ hk]
  exact am_bc (by rw [bt_nI _ _ hk])
def g_j (G : Nat → Nat) (a b k : Nat) : Bool := (decide (G (1 + k) = a) && decide (G (13 + k) = b)) || (decide (G (1 + k) = b) && decide (G (13 + k) = a))
def g_w (G : Nat → Nat) (a b : Nat) : Nat → Nat
  | 0 => 0
  | n + 1 => if g_j G a b n = true then n + 1 else g_w G a b n
/-- the way that joins two places, and 1; 0: none -/
def g_wy (G : Nat → Nat) (a b : Nat) : Nat := g_w G a b (G 0)
/-- joined by a way that isn't in a set -/
def g_E (G : Nat → Nat) (s a b : Nat) : Bool := !decide (g_wy G a b = 0) && !s.testBit (g_wy G a b - 1)
theorem g_w_spec (G : Nat → Nat) (a b : Nat) : ∀ n, (g_w G a b n = 0 ∧ ∀ k, k < n → g_j G a b k = false) ∨ ∃ k, g_w G a b n = k + 1 ∧ k < n ∧ g_j G a b k = true := by
  intro n
  induction n with
  | zero => left; exact ⟨rfl, fun k h => by omega⟩
  | succ n ih =>
    by_cases h : g_j G a b n = true
    · right; exact ⟨n, by simp [g_w, h], by omega, h⟩
    · have e : g_w G a b (n + 1) = g_w G a b n := by simp [g_w, h]
      rw [e]
      rcases ih with ⟨h1, h2⟩ | ⟨k, h1, h2, h3⟩
      · left
        refine ⟨h1, fun k hk => ?_⟩
        rcases Nat.lt_or_ge k n with z | z
        · exact h2 k z
        · rw [show k = n by omega]; simpa using h
      · right; exact ⟨k, h1, by omega, h3⟩
def g_pc : Nat → Nat → Nat
  | _, 0 => 0
  | m, n + 1 => g_pc m n + (if m.testBit n = true then 1 else 0)
/-- a road as there can be -/
def WG (G : Nat → Nat) : Prop :=
  G 0 ≤ 12 ∧ (∀ k, k < G 0 → G (1 + k) < G (13 + k) ∧ G (13 + k) < 8) ∧ (∀ j k, j < k → k < G 0 → ¬ (G (1 + j) = G (1 + k) ∧ G (13 + j) = G (13 + k))) ∧
  G 25 < 2 ^ 12 ∧ (∀ k, (G 25).testBit k = true → k < G 0) ∧ g_pc (G 25) 12 ≤ 6 ∧ G 26 < 256 ∧ (∀ p, p < 8 → (G 26).testBit p = true → G (27 + p) < 8 ∧ G (35 + p) < G 0) ∧ G 43 < 8 ∧ G 44 < 2 ^ 12 ∧ (∀ k, (G 44).testBit k = true → (G 25).testBit k = true)
theorem WG_uniq {G : Nat → Nat} (h : WG G) {a b j k : Nat} (hj : j < G 0) (hk : k < G 0) (h1 : g_j G a b j = true) (h2 : g_j G a b k = true) : j = k := by
  obtain ⟨-, hlt, hd, -⟩ := h
  have key : ∀ j k, j < k → k < G 0 → g_j G a b j = true → g_j G a b k = true → False := by
    intro j k hjk hk h1 h2
    have := hd j k hjk hk
    have a1 := hlt j (by omega)
    have a2 := hlt k hk
    simp only [g_j, Bool.or_eq_true, Bool.and_eq_true, decide_eq_true_eq] at h1 h2
    omega
  rcases Nat.lt_trichotomy j k with z | z | z
  · exact (key j k z hk h1 h2).elim
  · exact z
  · exact (key k j z hj h2 h1).elim
theorem g_wy_of {G : Nat → Nat} (h : WG G) {a b k : Nat} (hk : k < G 0) (h1 : g_j G a b k = true) : g_wy G a b = k + 1 := by
  rcases g_w_spec G a b (G 0) with ⟨_, z⟩ | ⟨j, z1, z2, z3⟩
  · rw [z k hk] at h1; cases h1
  · rw [WG_uniq h hk z2 h1 z3]; exact z1
theorem g_wy_sym (G : Nat → Nat) (a b : Nat) : g_wy G a b = g_wy G b a := by
  unfold g_wy
  have : ∀ n, g_w G a b n = g_w G b a n := by
    intro n
    induction n with
    | zero => rfl
    | succ n ih =>
      have e : g_j G a b n = g_j G b a n := by simp only [g_j]; rw [Bool.or_comm]
      simp only [g_w, e, ih]
  exact this _
theorem g_wy_self {G : Nat → Nat} (h : WG G) (a : Nat) : g_wy G a a = 0 := by
  rcases g_w_spec G a a (G 0) with ⟨z, _⟩ | ⟨j, z1, z2, z3⟩
  · exact z
  · have a1 := h.2.1 j z2
    simp only [g_j, Bool.or_eq_true, Bool.and_eq_true, decide_eq_true_eq] at z3
    omega
theorem g_wy_le (G : Nat → Nat) (a b : Nat) : g_wy G a b ≤ G 0 := by
  rcases g_w_spec G a b (G 0) with ⟨z, _⟩ | ⟨j, z1, z2, z3⟩
  · unfold g_wy; omega
  · unfold g_wy; omega
/-- the bits of a pair -/
theorem f_pair_bl {a b p q : Nat} (ha : a < 8) (hb : b < 8) (hp : p < 8) (hq : q < 8) : bl (f_pair (nI a) (nI b)) (8 * p + q) = ((decide (p = a) && decide (q = b)) || (decide (p = b) && decide (q = a))) := by
  unfold f_pair
  rw [show (8 : Int32) = nI 8 from rfl, pk_mul, pk_mul, nI_add, nI_add, bl_or, bl_one (by omega) (by omega), bl_one (by omega) (by omega)]
  have e : ∀ x y, x < 8 → y < 8 → decide (8 * p + q = x * 8 + y) = (decide (p = x) && decide (q = y)) := by
    intro x y hx hy
    rw [Bool.eq_iff_iff]
    simp only [Bool.and_eq_true, decide_eq_true_eq]
    omega
  rw [e a b ha hb, e b a hb ha]
/-- believing a way open, or shut -/
theorem g_E_clr {G : Nat → Nat} (h : WG G) {k : Nat} (hk : k < G 0) (s p q : Nat) : g_E G (g_clr s k) p q = (g_E G s p q || g_j G p q k) := by
  unfold g_E
  by_cases hj : g_j G p q k = true
  · rw [g_wy_of h hk hj, hj]
    simp [g_clr_t]
  · have hj' : g_j G p q k = false := by simpa using hj
    rw [hj', Bool.or_false, g_clr_t]
    by_cases h0 : g_wy G p q = 0
    · simp [h0]
    · have : ¬ g_wy G p q - 1 = k := by
        intro e
        rcases g_w_spec G p q (G 0) with ⟨z, _⟩ | ⟨j, z1, z2, z3⟩
        · exact h0 z
        · have : g_wy G p q = j + 1 := z1
          have : j = k := by omega
          subst this
          exact hj z3
      simp [this]
theorem g_E_set {G : Nat → Nat} (h : WG G) {k : Nat} (hk : k < G 0) (s p q : Nat) : g_E G (g_set s k) p q = (g_E G s p q && !g_j G p q k) := by
  unfold g_E
  by_cases hj : g_j G p q k = true
  · rw [g_wy_of h hk hj, hj]
    simp [g_set_t]
  · have hj' : g_j G p q k = false := by simpa using hj
    rw [hj', Bool.not_false, Bool.and_true, g_set_t]
    by_cases h0 : g_wy G p q = 0
    · simp [h0]
    · have : ¬ g_wy G p q - 1 = k := by
        intro e
        rcases g_w_spec G p q (G 0) with ⟨z, _⟩ | ⟨j, z1, z2, z3⟩
        · exact h0 z
        · have : g_wy G p q = j + 1 := z1
          have : j = k := by omega
          subst this
          exact hj z3
      simp [this]
/-- the cells of a road of the class hold G -/
def RC (I : am_I) (L : am_J) (r : Nat) (G : Nat → Nat) : Prop :=
  I r 5 = nI (G 0) ∧ I r 6 = nI (G 25) ∧ I r 7 = nI (G 44) ∧ I r 8 = nI (G 26) ∧ I r 9 = nI (G 43) ∧
  (∀ k, k < G 0 → I (r + 1) k = nI (G (1 + k)) ∧ I (r + 2) k = nI (G (13 + k))) ∧
  (∀ a b, a < 8 → b < 8 → I (r + 3) (8 * a + b) = nI (g_wy G a b)) ∧
  (∀ p, p < 8 → (G 26).testBit p = true → I (r + 4) p = nI (G (27 + p)) ∧ I (r + 5) p = nI (G (35 + p))) ∧
  (∀ a b, a < 8 → b < 8 → bl (L r 10) (8 * a + b) = g_E G 0 a b) ∧
  (∀ a b, a < 8 → b < 8 → bl (L r 11) (8 * a + b) = g_E G (G 25) a b)
theorem RC_fr {I I' : am_I} {L L' : am_J} {r : Nat} {G : Nat → Nat} (h : RC I L r G) (hI : ∀ a, r ≤ a → a ≤ r + 5 → I' a = I a) (hL : L' r = L r) : RC I' L' r G := by
  unfold RC at *
  rw [hI r (by omega) (by omega), hI (r + 1) (by omega) (by omega), hI (r + 2) (by omega) (by omega), hI (r + 3) (by omega) (by omega), hI (r + 4) (by omega) (by omega), hI (r + 5) (by omega) (by omega), hL]
  exact h
/-! JOURNEYS -/
/-- what a stone makes of what is believed shut, for who comes to a place from another -/
def g_heed (G : Nat → Nat) (kind snow stones p f b : Nat) : Nat :=
  if stones.testBit p = true then
    (if kind = 0 ∨ (G (27 + p) = f ∧ (kind = 1 ∨ kind = 3)) then (if (snow.testBit (G (35 + p)) = false ↔ G (27 + p) = f) then g_clr b (G (35 + p)) else g_set b (G (35 + p)))
     else if kind = 3 then (if (snow.testBit (G (35 + p)) = false ↔ G (27 + p) = f) then g_set b (G (35 + p)) else g_clr b (G (35 + p)))
     else b)
  else b
def g_tgt (G : Nat → Nat) (s : Nat × Nat) : Option Nat := g_to (g_E G s.2) (G 43) s.1
def g_nx (G : Nat → Nat) (kind snow stones : Nat) (s : Nat × Nat) : Nat × Nat := match g_tgt G s with
  | none => s
  | some t => if snow.testBit (g_wy G s.1 t - 1) = true then (s.1, g_set s.2 (g_wy G s.1 t - 1)) else (t, g_heed G kind snow stones t s.1 (g_clr s.2 (g_wy G s.1 t - 1)))
def g_S (G : Nat → Nat) (kind snow stones f : Nat) : Nat → Nat × Nat
  | 0 => (f, 0)
  | i + 1 => g_nx G kind snow stones (g_S G kind snow stones f i)
/-- it stood so ahead -/
def g_sn (S : Nat → Nat × Nat) (i : Nat) (s : Nat × Nat) : Bool := (List.range i).any (fun j => decide (S j = s))
/-- 0 home, 1 lost, 2 round, 3 under way -/
def g_end (G : Nat → Nat) (S : Nat → Nat × Nat) (i : Nat) : Nat := if (S i).1 = G 43 then 0 else if g_sn S i (S i) = true then 2 else if g_tgt G (S i) = none then 1 else 3
theorem g_to_spec {E : Nat → Nat → Bool} {h a t : Nat} (e : g_to E h a = some t) : t < 8 ∧ E a t = true := by
  rcases g_ch_spec (g_d E h) (E a) 8 with ⟨z, _⟩ | ⟨b, z1, z2, z3, _⟩
  · rw [show g_ch (g_d E h) (E a) 8 = some t from e] at z; cases z
  · rw [show g_ch (g_d E h) (E a) 8 = some t from e] at z1; cases z1; exact ⟨z2, z3⟩
theorem g_E_wy {G : Nat → Nat} {s a b : Nat} (h : g_E G s a b = true) : ∃ k, g_wy G a b = k + 1 ∧ k < G 0 ∧ g_j G a b k = true ∧ s.testBit k = false := by
  unfold g_E at h
  simp only [Bool.and_eq_true, Bool.not_eq_true', decide_eq_false_iff_not] at h
  rcases g_w_spec G a b (G 0) with ⟨z, _⟩ | ⟨k, z1, z2, z3⟩
  · exact absurd z h.1
  · have e : g_wy G a b = k + 1 := z1
    rw [e] at h
    exact ⟨k, e, z2, z3, h.2⟩
theorem g_heed_lt {G : Nat → Nat} (hG : WG G) {kind snow stones p f b : Nat} (hs : ∀ q, stones.testBit q = true → (G 26).testBit q = true) (hp : p < 8) (hb : b < 2 ^ 12) : g_heed G kind snow stones p f b < 2 ^ 12 := by
  unfold g_heed
  split
  · rename_i h
    have := (hG.2.2.2.2.2.2.2.1 p hp (hs p h)).2
    have := hG.1
    split
    · split
      · exact g_clr_lt hb (by omega)
      · exact g_set_lt hb (by omega)
    · split
      · split
        · exact g_set_lt hb (by omega)
        · exact g_clr_lt hb (by omega)
      · exact hb
  · exact hb
theorem g_S_lt {G : Nat → Nat} (hG : WG G) {kind snow stones f : Nat} (hs : ∀ q, stones.testBit q = true → (G 26).testBit q = true) (hf : f < 8) : ∀ i, (g_S G kind snow stones f i).1 < 8 ∧ (g_S G kind snow stones f i).2 < 2 ^ 12 := by
  intro i
  induction i with
  | zero => exact ⟨hf, show 0 < 2 ^ 12 by decide⟩
  | succ i ih =>
    show (g_nx G kind snow stones (g_S G kind snow stones f i)).1 < 8 ∧ (g_nx G kind snow stones (g_S G kind snow stones f i)).2 < 2 ^ 12
    generalize g_S G kind snow stones f i = s at ih
    unfold g_nx
    cases ht : g_tgt G s with
    | none => exact ih
    | some t =>
      obtain ⟨h1, h2⟩ := g_to_spec ht
      obtain ⟨k, e, hk, _⟩ := g_E_wy h2
      have := hG.1
      dsimp only
      rw [e]
      split
      · exact ⟨ih.1, g_set_lt ih.2 (by omega)⟩
      · exact ⟨h1, g_heed_lt hG hs h1 (g_clr_lt ih.2 (by omega))⟩
