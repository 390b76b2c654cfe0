/-! WAYS HOME: how far a place is, and where one goes -/
def g_R (E : Nat → Nat → Bool) (h : Nat) : Nat → Nat → Bool
  | 0, q => decide (q = h)
  | k + 1, q => g_R E h k q || (List.range 8).any (fun p => E p q && g_R E h k p)
def g_lk (P : Nat → Bool) : Nat → Nat → Nat
  | 0, _ => 10000
  | n + 1, k => if P k = true then k else g_lk P n (k + 1)
def g_d (E : Nat → Nat → Bool) (h q : Nat) : Nat := g_lk (fun k => g_R E h k q) 8 0
/-- the best of the first n places: near, from which the fewest lead home, the least of these -/
def g_ch (d : Nat → Nat) (E : Nat → Bool) : Nat → Option Nat
  | 0 => none
  | n + 1 => match g_ch d E n with
    | none => if E n = true ∧ d n < 10000 then some n else none
    | some b => if E n = true ∧ d n < d b then some n else some b
def g_to (E : Nat → Nat → Bool) (h a : Nat) : Option Nat := g_ch (g_d E h) (E a) 8
def g_toI (x : Option Nat) : Int32 := match x with
  | some q => nI q
  | none => -1
theorem g_lk_spec (P : Nat → Bool) : ∀ n k, (g_lk P n k = 10000 ∧ ∀ j, k ≤ j → j < k + n → P j = false) ∨ (k ≤ g_lk P n k ∧ g_lk P n k < k + n ∧ P (g_lk P n k) = true ∧ ∀ j, k ≤ j → j < g_lk P n k → P j = false) := by
  intro n
  induction n with
  | zero => intro k; left; exact ⟨rfl, fun j h1 h2 => by omega⟩
  | succ n ih =>
    intro k
    by_cases h : P k = true
    · right
      have e : g_lk P (n + 1) k = k := by simp [g_lk, h]
      rw [e]
      exact ⟨Nat.le_refl k, by omega, h, fun j h1 h2 => by omega⟩
    · have e : g_lk P (n + 1) k = g_lk P n (k + 1) := by simp [g_lk, h]
      rw [e]
      rcases ih (k + 1) with ⟨h1, h2⟩ | ⟨h1, h2, h3, h4⟩
      · left
        refine ⟨h1, fun j a b => ?_⟩
        rcases Nat.eq_or_lt_of_le a with c | c
        · rw [← c]; simpa using h
        · exact h2 j (by omega) (by omega)
      · right
        refine ⟨by omega, by omega, h3, fun j a b => ?_⟩
        rcases Nat.eq_or_lt_of_le a with c | c
        · rw [← c]; simpa using h
        · exact h4 j (by omega) b
theorem g_d_spec (E : Nat → Nat → Bool) (h q : Nat) : (g_d E h q = 10000 ∧ ∀ j, j < 8 → g_R E h j q = false) ∨ (g_d E h q < 8 ∧ g_R E h (g_d E h q) q = true ∧ ∀ j, j < g_d E h q → g_R E h j q = false) := by
  rcases g_lk_spec (fun k => g_R E h k q) 8 0 with ⟨a, b⟩ | ⟨a, b, c, d⟩
  · exact Or.inl ⟨a, fun j hj => b j (by omega) (by omega)⟩
  · exact Or.inr ⟨by rw [Nat.zero_add] at b; exact b, c, fun j hj => d j (by omega) hj⟩
theorem g_R_mono {E : Nat → Nat → Bool} {h q : Nat} : ∀ {j k : Nat}, j ≤ k → g_R E h j q = true → g_R E h k q = true := by
  intro j k hjk
  induction k with
  | zero => intro a; rwa [show j = 0 by omega] at a
  | succ k ih =>
    intro a
    rcases Nat.eq_or_lt_of_le hjk with e | e
    · rwa [e] at a
    · show (g_R E h k q || _) = true
      rw [ih (by omega) a]; rfl
theorem g_R_succ {E : Nat → Nat → Bool} {h q k : Nat} : g_R E h (k + 1) q = true ↔ (g_R E h k q = true ∨ ∃ p, p < 8 ∧ E p q = true ∧ g_R E h k p = true) := by
  show (g_R E h k q || (List.range 8).any (fun p => E p q && g_R E h k p)) = true ↔ _
  simp only [Bool.or_eq_true, List.any_eq_true, List.mem_range, Bool.and_eq_true]
theorem g_ch_spec (d : Nat → Nat) (E : Nat → Bool) : ∀ n, (g_ch d E n = none ∧ ∀ q, q < n → E q = true → ¬ d q < 10000) ∨ ∃ b, g_ch d E n = some b ∧ b < n ∧ E b = true ∧ d b < 10000 ∧ ∀ q, q < n → E q = true → d b ≤ d q ∧ (d q = d b → b ≤ q) := by
  intro n
  induction n with
  | zero => left; exact ⟨rfl, fun q h => by omega⟩
  | succ n ih =>
    rcases ih with ⟨h1, h2⟩ | ⟨b, h1, h2, h3, h4, h5⟩
    · by_cases hc : E n = true ∧ d n < 10000
      · right
        refine ⟨n, by simp [g_ch, h1, hc], by omega, hc.1, hc.2, fun q hq he => ?_⟩
        rcases Nat.lt_or_ge q n with a | a
        · have := h2 q a he; omega
        · have : q = n := by omega
          subst this; exact ⟨Nat.le_refl _, fun _ => Nat.le_refl _⟩
      · left
        refine ⟨by simp only [g_ch, h1, if_neg hc], fun q hq he hd => ?_⟩
        rcases Nat.lt_or_ge q n with a | a
        · exact h2 q a he hd
        · have : q = n := by omega
          subst this; exact hc ⟨he, hd⟩
    · by_cases hc : E n = true ∧ d n < d b
      · right
        refine ⟨n, by simp only [g_ch, h1, if_pos hc], by omega, hc.1, by omega, fun q hq he => ?_⟩
        rcases Nat.lt_or_ge q n with a | a
        · have := h5 q a he; omega
        · have : q = n := by omega
          subst this; exact ⟨Nat.le_refl _, fun _ => Nat.le_refl _⟩
      · right
        refine ⟨b, by simp only [g_ch, h1, if_neg hc], by omega, h3, h4, fun q hq he => ?_⟩
        rcases Nat.lt_or_ge q n with a | a
        · exact h5 q a he
        · have : q = n := by omega
          subst this
          have : ¬ d q < d b := fun z => hc ⟨he, z⟩
          exact ⟨by omega, fun _ => by omega⟩
/-- what says that it is the best -/
theorem g_ch_some {d : Nat → Nat} {E : Nat → Bool} {n b : Nat} (h1 : b < n) (h2 : E b = true) (h3 : d b < 10000) (h4 : ∀ q, q < n → E q = true → d b ≤ d q ∧ (d q = d b → b ≤ q)) : g_ch d E n = some b := by
  rcases g_ch_spec d E n with ⟨_, a⟩ | ⟨c, a1, a2, a3, a4, a5⟩
  · exact absurd h3 (a b h1 h2)
  · have x := h4 c a2 a3
    have y := a5 b h1 h2
    have e : d b = d c := by omega
    have := x.2 e.symm
    have := y.2 e
    rw [a1, show c = b by omega]
theorem g_ch_none {d : Nat → Nat} {E : Nat → Bool} {n : Nat} (h : ∀ q, q < n → E q = true → ¬ d q < 10000) : g_ch d E n = none := by
  rcases g_ch_spec d E n with ⟨a, _⟩ | ⟨c, a1, a2, a3, a4, a5⟩
  · exact a
  · exact absurd a4 (h c a2 a3)
/-! THE CLASS, nets -/
def T_NT_leastOf : am_Sp := fun vs I L post => match vs with
  | [.int s] => ∃ q, q < 8 ∧ bt s q = true ∧ (∀ j, j < q → bt s j = false) ∧ post (some (.int (nI q))) I L
  | _ => False
def sp_NT_leastOf : Nat → am_Sp := fun i => match i with
  | 22 => T_RP_bitOf
  | _ => am_no
theorem ok_NT_leastOf : am_Ok am_SX sp_NT_leastOf false k_NT_leastOf 2 T_NT_leastOf := by
  intro vs I L post h
  unfold T_NT_leastOf at h
  split at h
  · rename_i s
    obtain ⟨q, hq, hb, hl, h⟩ := h
    refine ⟨Nat.le_of_ble_eq_true rfl, fun G hG => ?_⟩
    have loop : ∀ n k, q - k = n → k ≤ q → G 2 [some (.int s), some (.int (nI k))] [] I L := by
      intro n
      induction n with
      | zero =>
        intro k hn hk
        have hkq : k = q := by omega
        subst hkq
        refine hG [(2, [])] 50 2 _ _ _ _ (And.intro (fun _ => h) (fun h1 => ?_))
        refine And.intro (fun _ => h) (fun h2 => ?_)
        rw [f_bit_eq s (by omega), am_bz] at h2
        exact absurd hb h2
      | succ n ih =>
        intro k hn hk
        refine hG [(2, [])] 50 2 _ _ _ _ (And.intro (fun h1 => ?_) (fun _ => ?_))
        · exact absurd (nI_lt (by omega : k < 7) (by omega)) h1
        · refine And.intro (fun h2 => ?_) (fun _ => ?_)
          · rw [f_bit_eq s (by omega), am_bz, hl k (by omega)] at h2
            exact absurd (by simp) h2
          · show G 2 [some (.int s), some (.int (nI k + 1))] [] I L
            rw [nI_1]
            exact ih (k + 1) (by omega) (by omega)
    refine hG [(2, [])] 50 0 _ _ _ _ ?_
    exact loop q 0 (by omega) (by omega)
  · exact h.elim
def g_ar (net : Int64) (s : Int32) (i n : Nat) : Bool := decide (i < 8) && (List.range n).any (fun p => bt s p && bl net (8 * p + i))
theorem g_ar_succ (net : Int64) (s : Int32) (i n : Nat) : g_ar net s i (n + 1) = (g_ar net s i n || (decide (i < 8) && (bt s n && bl net (8 * n + i)))) := by
  unfold g_ar
  rw [List.range_succ, List.any_append]
  cases decide (i < 8) <;> simp
def T_NT_around : am_Sp := fun vs I L post => match vs with
  | [.long net, .int s] => ∀ x : Int32, (∀ i, i < 32 → bt x i = g_ar net s i 8) → post (some (.int x)) I L
  | _ => False
def sp_NT_around : Nat → am_Sp := fun i => match i with
  | 9 => T_RP_byteOf
  | 22 => T_RP_bitOf
  | _ => am_no
theorem ok_NT_around : am_Ok am_SX sp_NT_around false k_NT_around 5 T_NT_around := by
  intro vs I L post h
  unfold T_NT_around at h
  split at h
  · rename_i net s
    refine ⟨Nat.le_of_ble_eq_true rfl, fun G hG => ?_⟩
    have loop : ∀ n k (x : Int32), 8 - k = n → k ≤ 8 → (∀ i, i < 32 → bt x i = g_ar net s i k) → G 5 [some (.long net), none, some (.int s), some (.int x), some (.int (nI k))] [] I L := by
      intro n
      induction n with
      | zero =>
        intro k x hn hk hx
        have hk8 : k = 8 := by omega
        subst hk8
        exact hG [(5, [])] 50 5 _ _ _ _ (And.intro (fun _ => h x hx) (fun h1 => absurd h1 (nI_nlt (Nat.le_refl 8) (by omega))))
      | succ n ih =>
        intro k x hn hk hx
        refine hG [(5, [])] 50 5 _ _ _ _ (And.intro (fun h1 => absurd (nI_lt (by omega : k < 8) (by omega)) h1) (fun _ => ?_))
        refine And.intro (fun h2 => ?_) (fun h2 => ?_)
        · show G 5 [some (.long net), none, some (.int s), some (.int x), some (.int (nI k + 1))] [] I L
          rw [nI_1]
          refine ih (k + 1) x (by omega) (by omega) (fun i hi => ?_)
          rw [f_bit_eq s (by omega), am_bo] at h2
          rw [g_ar_succ, hx i hi]
          simp [h2]
        · show G 5 [some (.long net), none, some (.int s), some (.int (x ||| f_byte net (nI k))), some (.int (nI k + 1))] [] I L
          rw [nI_1]
          refine ih (k + 1) _ (by omega) (by omega) (fun i hi => ?_)
          rw [f_bit_eq s (by omega), am_bo] at h2
          rw [g_ar_succ, b_or, hx i hi, f_byte_bt net (by omega) hi, h2]
          simp
    refine hG [(5, [])] 50 0 _ _ _ _ ?_
    exact loop 8 0 0 (by omega) (by omega) (fun i hi => by rw [b_0]; simp [g_ar])
  · exact h.elim
theorem g_d_eq {E : Nat → Nat → Bool} {h q k : Nat} (hk : k < 8) (h1 : g_R E h k q = true) (h2 : ∀ j, j < k → g_R E h j q = false) : g_d E h q = k := by
  rcases g_d_spec E h q with ⟨a, b⟩ | ⟨a, b, c⟩
  · rw [b k hk] at h1; cases h1
  · rcases Nat.lt_or_ge (g_d E h q) k with z | z
    · rw [h2 _ z] at b; cases b
    · rcases Nat.eq_or_lt_of_le z with e | e
      · exact e.symm
      · rw [c k e] at h1; cases h1
theorem g_d_far {E : Nat → Nat → Bool} {h q : Nat} (h2 : ∀ j, j < 8 → g_R E h j q = false) : g_d E h q = 10000 := by
  rcases g_d_spec E h q with ⟨a, b⟩ | ⟨a, b, c⟩
  · exact a
  · rw [h2 _ a] at b; cases b
def g_rg (E : Nat → Nat → Bool) (h : Nat) : Nat → Nat → Bool
  | 0, i => g_R E h 0 i
  | k + 1, i => g_R E h (k + 1) i && !g_R E h k i
theorem g_rg_of {E : Nat → Nat → Bool} {h k i : Nat} (h1 : g_R E h k i = true) (h2 : ∀ j, j < k → g_R E h j i = false) : g_rg E h k i = true := by
  cases k with
  | zero => exact h1
  | succ k => simp [g_rg, h1, h2 k (by omega)]
theorem g_rg_R {E : Nat → Nat → Bool} {h k i : Nat} (h1 : g_rg E h k i = true) : g_R E h k i = true := by
  cases k with
  | zero => exact h1
  | succ k => simp only [g_rg, Bool.and_eq_true] at h1; exact h1.1
theorem g_stable {E : Nat → Nat → Bool} {h k : Nat} (hs : ∀ i, i < 8 → g_R E h (k + 1) i = true → g_R E h k i = true) : ∀ m i, i < 8 → g_R E h (k + m) i = true → g_R E h k i = true := by
  intro m
  induction m with
  | zero => intro i _ h; exact h
  | succ m ih =>
    intro i hi h
    rcases g_R_succ.mp (show g_R E _ ((k + m) + 1) i = true from h) with a | ⟨p, a, b, c⟩
    · exact ih i hi a
    · exact hs i hi (g_R_succ.mpr (Or.inr ⟨p, a, b, ih p a c⟩))
theorem am_leastb (P : Nat → Bool) : ∀ n, (∃ i, i < n ∧ P i = true) → ∃ q, q < n ∧ P q = true ∧ ∀ j, j < q → P j = false := by
  intro n
  induction n with
  | zero => rintro ⟨i, h, _⟩; omega
  | succ n ih =>
    rintro ⟨i, h1, h2⟩
    by_cases h : ∃ i, i < n ∧ P i = true
    · obtain ⟨q, a, b, c⟩ := ih h
      exact ⟨q, by omega, b, c⟩
    · have hi : i = n := by
        rcases Nat.lt_or_ge i n with z | z
        · exact absurd ⟨i, z, h2⟩ h
        · omega
      subst hi
      exact ⟨i, by omega, h2, fun j hj => by
        cases hp : P j with
        | false => rfl
        | true => exact absurd ⟨j, hj, hp⟩ h⟩
theorem bt_nonz {x : Int32} (h : ¬ x = 0) : ∃ i, i < 32 ∧ bt x i = true := by
  by_cases hq : ∃ i, i < 32 ∧ bt x i = true
  · exact hq
  · exact absurd (bt_zero.mpr (fun i hi => by
      cases hb : bt x i with
      | false => rfl
      | true => exact absurd ⟨i, hi, hb⟩ hq)) h
def T_NT_towards : am_Sp := fun vs I L post => match vs with
  | [.long net, .int x, .int y] => ∃ a g, a < 8 ∧ g < 8 ∧ x = nI a ∧ y = nI g ∧ post (some (.int (g_toI (g_to (fun p q => bl net (8 * p + q)) g a)))) I L
  | _ => False
def sp_NT_towards : Nat → am_Sp := fun i => match i with
  | 9 => T_RP_byteOf
  | 13 => T_NT_leastOf
  | 19 => T_NT_around
  | _ => am_no
set_option maxRecDepth 100000 in
theorem ok_NT_towards : am_Ok am_SX sp_NT_towards false k_NT_towards 8 T_NT_towards := by
  intro vs I L post h
  unfold T_NT_towards at h
  split at h
  · rename_i net x y
    obtain ⟨a, g, ha, hg, rfl, rfl, h⟩ := h
    refine ⟨Nat.le_of_ble_eq_true rfl, fun G hG => ?_⟩
    have nearb : ∀ i, i < 32 → bt (f_byte net (nI a)) i = (decide (i < 8) && bl net (8 * a + i)) := fun i hi => f_byte_bt net ha hi
    obtain ⟨near, hnear⟩ : ∃ x, x = f_byte net (nI a) := ⟨_, rfl⟩
    rw [← hnear] at nearb
    have key : ∀ E : Nat → Nat → Bool, (E = fun p q => bl net (8 * p + q)) → ∀ n k (ring reached : Int32), 8 - k = n → k ≤ 8 → (∀ i, i < 32 → bt ring i = (decide (i < 8) && g_rg E g k i)) → (∀ i, i < 32 → bt reached i = (decide (i < 8) && g_R E g k i)) → (∀ q, q < 8 → E a q = true → ∀ j, j < k → g_R E g j q = false) → G 19 [some (.long net), none, some (.int (nI a)), some (.int (nI g)), some (.int near), some (.int ring), some (.int reached), some (.int (nI k))] [] I L := by
      intro E hE n
      have h : post (some (.int (g_toI (g_to E g a)))) I L := by rw [hE]; exact h
      have hEb : ∀ p q, E p q = bl net (8 * p + q) := fun p q => by rw [hE]
      clear hE
      induction n with
      | zero =>
        intro k ring reached hn hk h1 h2 h3
        have hk8 : k = 8 := by omega
        subst hk8
        have e : g_to E g a = none := g_ch_none (fun q hq he => by rw [g_d_far (h3 q hq he)]; omega)
        rw [e] at h
        exact hG [(19, [])] 50 19 _ _ _ _ (And.intro (fun _ => h) (fun q => absurd q (nI_nlt (Nat.le_refl 8) (by omega))))
      | succ n ih =>
        intro k ring reached hn hk h1 h2 h3
        refine hG [(19, [])] 50 19 _ _ _ _ (And.intro (fun q => absurd (nI_lt (by omega : k < 8) (by omega)) q) (fun _ => And.intro (fun hz => ?_) (fun hz => ?_)))
        · -- the ring is empty
          have hno : ∀ i, i < 8 → g_rg E g k i = false := fun i hi => by
            have := bt_zero.mp hz i (by omega)
            rw [h1 i (by omega)] at this
            simpa [hi] using this
          have hk0 : k ≠ 0 := by
            intro hk0
            subst hk0
            have := hno g hg
            simp [g_rg, g_R] at this
          obtain ⟨k', rfl⟩ : ∃ k', k = k' + 1 := ⟨k - 1, by omega⟩
          have hst : ∀ i, i < 8 → g_R E g (k' + 1) i = true → g_R E g k' i = true := fun i hi hr => by
            have := hno i hi
            simp only [g_rg, hr, Bool.true_and] at this
            simpa using this
          have e : g_to E g a = none := g_ch_none (fun q hq he => by
            rw [g_d_far (fun j hj => ?_)]
            · omega
            · rcases Nat.lt_or_ge j (k' + 1) with z | z
              · exact h3 q hq he j z
              · cases hr : g_R E g j q with
                | false => rfl
                | true =>
                  have := g_stable hst (j - k') q hq (by rw [show k' + (j - k') = j by omega]; exact hr)
                  rw [h3 q hq he k' (by omega)] at this
                  cases this)
          rw [e] at h
          exact h
        · refine And.intro (fun h4 => ?_) (fun h4 => ?_)
          · -- none is near
            have hzz : ∀ i, i < 8 → E a i = true → g_R E g k i = false := fun i hi he => by
              cases hr : g_R E g k i with
              | false => rfl
              | true =>
                have hb := bt_zero.mp h4 i (by omega)
                rw [b_and, h1 i (by omega), nearb i (by omega), g_rg_of hr (h3 i hi he), ← hEb, he] at hb
                simp [hi] at hb
            intro x hx
            show G 19 [some (.long net), none, some (.int (nI a)), some (.int (nI g)), some (.int near), some (.int (x &&& (reached ^^^ (-1)))), some (.int (reached ||| (x &&& (reached ^^^ (-1))))), some (.int (nI k + 1))] [] I L
            rw [nI_1]
            have hnew : ∀ i, i < 32 → bt (x &&& (reached ^^^ (-1))) i = (decide (i < 8) && g_rg E g (k + 1) i) := fun i hi => by
              rw [b_and, hx i hi, bt_not hi, h2 i hi]
              by_cases hi8 : i < 8
              · simp only [g_ar, hi8, decide_true, Bool.true_and, g_rg]
                cases hr : g_R E g k i with
                | true => simp
                | false =>
                  simp only [Bool.not_false, Bool.and_true]
                  rw [Bool.eq_iff_iff, List.any_eq_true, g_R_succ, hr]
                  constructor
                  · rintro ⟨p, hp, hpq⟩
                    rw [List.mem_range] at hp
                    rw [Bool.and_eq_true, h1 p (by omega)] at hpq
                    exact Or.inr ⟨p, hp, by rw [hEb]; exact hpq.2, g_rg_R (by simpa [hp] using hpq.1)⟩
                  · rintro (z | ⟨p, hp, he, hrp⟩)
                    · cases z
                    · refine ⟨p, List.mem_range.mpr hp, ?_⟩
                      rw [Bool.and_eq_true, h1 p (by omega), ← hEb]
                      refine ⟨?_, he⟩
                      have : g_rg E g k p = true := g_rg_of hrp (fun j hj => by
                        cases hq : g_R E g j p with
                        | false => rfl
                        | true =>
                          have : g_R E g (j + 1) i = true := g_R_succ.mpr (Or.inr ⟨p, hp, he, hq⟩)
                          have := g_R_mono (show j + 1 ≤ k by omega) this
                          rw [hr] at this
                          cases this)
                      simp [hp, this]
              · simp [g_ar, hi8]
            refine ih (k + 1) _ _ (by omega) (by omega) hnew (fun i hi => ?_) (fun q hq he j hj => ?_)
            · rw [b_or, h2 i hi, hnew i hi]
              by_cases hi8 : i < 8
              · simp only [hi8, decide_true, Bool.true_and, g_rg]
                cases hr : g_R E g k i with
                | true => simp [g_R_mono (Nat.le_succ k) hr]
                | false => simp
              · simp [hi8]
            · rcases Nat.lt_or_ge j k with z | z
              · exact h3 q hq he j z
              · rw [show j = k by omega]
                exact hzz q hq he
          · -- here one is near
            obtain ⟨i, hi, hb⟩ := bt_nonz h4
            obtain ⟨q, hq, hqb, hql⟩ := am_leastb (fun i => bt (ring &&& near) i) 32 ⟨i, hi, hb⟩
            have hq2 := hqb
            simp only [b_and, h1 q hq, nearb q hq, Bool.and_eq_true, decide_eq_true_eq] at hq2
            obtain ⟨⟨hq8, hrg⟩, _, hqe⟩ := hq2
            rw [← hEb] at hqe
            have hd : g_d E g q = k := g_d_eq (by omega) (g_rg_R hrg) (h3 q hq8 hqe)
            have e : g_to E g a = some q := g_ch_some hq8 hqe (by omega) (fun q' hq' he' => by
              rw [hd]
              rcases g_d_spec E g q' with ⟨z, _⟩ | ⟨z1, z2, z3⟩
              · rw [z]; exact ⟨by omega, fun z => by omega⟩
              · refine ⟨?_, fun z => ?_⟩
                · rcases Nat.lt_or_ge (g_d E g q') k with y | y
                  · rw [h3 q' hq' he' _ y] at z2; cases z2
                  · exact y
                · rcases Nat.lt_or_ge q' q with y | y
                  · have := hql q' y
                    simp only [b_and, h1 q' (by omega), nearb q' (by omega), ← hEb, he'] at this
                    rw [g_rg_of (by rw [← z]; exact z2) (by rw [← z]; exact z3)] at this
                    simp [hq'] at this
                  · exact y)
            rw [e] at h
            exact ⟨q, hq8, hqb, hql, h⟩
    refine hG [(19, [])] 50 0 _ _ _ _ ?_
    rw [hnear] at key
    exact key _ rfl 8 0 _ _ (by omega) (by omega) (fun i hi => by
      rw [bt_one (k := g) (by omega) hi]
      by_cases hi8 : i < 8
      · simp [hi8, g_rg, g_R]
      · have : ¬ i = g := by omega
        simp [hi8, this]) (fun i hi => by
      rw [bt_one (k := g) (by omega) hi]
      by_cases hi8 : i < 8
      · simp [hi8, g_R]
      · have : ¬ i = g := by omega
        simp [hi8, this]) (fun q _ _ j hj => by omega)
  · exact h.elim
