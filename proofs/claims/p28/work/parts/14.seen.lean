/-! THE CLASS, what was seen -/
theorem am_lt {a b : Nat} (h : a < b) (hb : Nat.ble b 2147483647 = true) : nI a < nI b := nI_lt h (by have := Nat.le_of_ble_eq_true hb; omega)
theorem am_nlt {a b : Nat} (h : b ≤ a) (hb : Nat.ble a 2147483647 = true) : ¬ nI a < nI b := nI_nlt h (by have := Nat.le_of_ble_eq_true hb; omega)
theorem am_vin {n N : Nat} (h : n < N) (hN : Nat.ble N 2147483647 = true) : vp_in (nI n) N := vp_in_nI h (by have := Nat.le_of_ble_eq_true hN; omega)
def g_cnt (P : Nat → Bool) : Nat → Nat
  | 0 => 0
  | n + 1 => g_cnt P n + (if P n = true then 1 else 0)
theorem g_cnt_congr {P Q : Nat → Bool} : ∀ n, (∀ j, j < n → P j = Q j) → g_cnt P n = g_cnt Q n := by
  intro n
  induction n with
  | zero => intro _; rfl
  | succ n ih => intro h; simp only [g_cnt, ih (fun j hj => h j (by omega)), h n (by omega)]
theorem g_cnt_le (P : Nat → Bool) : ∀ n, g_cnt P n ≤ n := by
  intro n
  induction n with
  | zero => exact Nat.le_refl _
  | succ n ih => simp only [g_cnt]; split <;> omega
theorem g_cnt_lt {P : Nat → Bool} {w : Nat} (hw : P w = false) : ∀ n, w < n → g_cnt P n < n := by
  intro n
  induction n with
  | zero => intro h; omega
  | succ n ih =>
    intro h
    simp only [g_cnt]
    rcases Nat.lt_or_ge w n with z | z
    · have := ih z
      split <;> omega
    · have : w = n := by omega
      subst this
      rw [hw]
      have := g_cnt_le P w
      simp; omega
theorem g_cnt_add {P Q : Nat → Bool} {w : Nat} (h1 : P w = false) (h2 : Q w = true) (h3 : ∀ j, j ≠ w → Q j = P j) : ∀ n, w < n → g_cnt Q n = g_cnt P n + 1 := by
  intro n
  induction n with
  | zero => intro h; omega
  | succ n ih =>
    intro h
    simp only [g_cnt]
    rcases Nat.lt_or_ge w n with z | z
    · rw [ih z, h3 n (by omega)]
      omega
    · have : w = n := by omega
      subst this
      rw [g_cnt_congr w (fun j hj => h3 j (by omega)), h1, h2]
      simp
theorem g_cnt_zero {P : Nat → Bool} : ∀ n, (∀ j, j < n → P j = false) → g_cnt P n = 0 := by
  intro n
  induction n with
  | zero => intro _; rfl
  | succ n ih => intro h; simp [g_cnt, ih (fun j hj => h j (by omega)), h n (by omega)]
/-- the cells of Seen hold a set of states, 4096 * place + shut -/
def SC (I : am_I) (L : am_J) (V : Nat → Bool) : Prop := ∃ c : Nat, c ≤ 512 ∧ I 22 2 = nI c ∧ c = g_cnt (fun w => decide (¬ L 23 w = 0)) 512 ∧ (∀ w, w < 512 → ¬ L 23 w = 0 → ∃ j, j < c ∧ I 24 j = nI w) ∧ (∀ j, j < c → ∃ w, w < 512 ∧ I 24 j = nI w) ∧ (∀ s, s < 32768 → bl (L 23 (s / 64)) (s % 64) = V s)
theorem SC_fr {I I' : am_I} {L L' : am_J} {V : Nat → Bool} (h : SC I L V) (h1 : I' 22 2 = I 22 2) (h2 : I' 24 = I 24) (h3 : L' 23 = L 23) : SC I' L' V := by
  unfold SC at *
  rw [h1, h2, h3]
  exact h
theorem SC_congr {I : am_I} {L : am_J} {V V' : Nat → Bool} (h : SC I L V) (e : ∀ s, s < 32768 → V s = V' s) : SC I L V' := by
  obtain ⟨c, a1, a2, a3, a4, a5, a6⟩ := h
  exact ⟨c, a1, a2, a3, a4, a5, fun s hs => by rw [a6 s hs, e s hs]⟩
def T_SN_forget : am_Sp := fun vs I L post => match vs with
  | [.ref o] => o = 22 ∧ ∃ V, SC I L V ∧ ∀ (I2 : am_I) (L2 : am_J), SC I2 L2 (fun _ => false) → (∀ a, a ≠ 22 → a ≠ 24 → I2 a = I a) → (∀ a, a ≠ 23 → L2 a = L a) → post none I2 L2
  | _ => False
abbrev sp_SN_forget : Nat → am_Sp := fun _ => am_no
theorem ok_SN_forget : am_Ok am_SX sp_SN_forget false k_SN_forget 3 T_SN_forget := by
  intro vs I L post h
  unfold T_SN_forget at h
  split at h
  · rename_i o
    obtain ⟨rfl, V, hs, h⟩ := h
    refine ⟨Nat.le_of_ble_eq_true rfl, fun G hG => ?_⟩
    obtain ⟨c, hc, h1, h2, h3, h4, h5⟩ := hs
    have loop : ∀ n k x (L2 : am_J), c - k = n → k ≤ c → (∀ a, a ≠ 23 → L2 a = L a) → (∀ w, w < 512 → ¬ L2 23 w = 0 → ∃ j, k ≤ j ∧ j < c ∧ I 24 j = nI w) → G 2 [some (.ref 22), some (.int (nI k)), x] [] I L2 := by
      intro n
      induction n with
      | zero =>
        intro k x L2 hn hk hL hw
        have hkc : k = c := by omega
        subst hkc
        refine hG [(2, [])] 50 2 _ _ _ _ (And.intro (fun _ => ?_) (fun q => ?_))
        · have hz : ∀ w, w < 512 → L2 23 w = 0 := fun w hw2 => by
            by_cases q : L2 23 w = 0
            · exact q
            · obtain ⟨j, a, b, _⟩ := hw w hw2 q
              omega
          refine h (am_ui I 22 2 0) L2 ⟨0, by omega, by simp [am_ui_r]; rfl, (g_cnt_zero 512 (fun j hj => by simp [hz j hj])).symm, fun w hw2 q => absurd (hz w hw2) q, fun j hj => by omega, fun s hs => by rw [hz _ (by omega), bl_0]⟩ (fun a ha hb => am_ui_o ha) hL
        · rw [h1] at q
          exact absurd q (nI_nlt (Nat.le_refl k) (by omega))
      | succ n ih =>
        intro k x L2 hn hk hL hw
        have hkc : k < c := by omega
        obtain ⟨w, hw1, hw2⟩ := h4 k hkc
        refine hG [(2, []), (24, [])] 50 2 _ _ _ _ (And.intro (fun q => ?_) (fun _ => ?_))
        · rw [h1] at q
          exact absurd (nI_lt hkc (by omega)) q
        · refine am_nf (am_lt (by omega : k < 512) rfl) (And.intro (am_vin (N := 512) (by omega) rfl) ?_)
          have e1 : (nI k).toNatClampNeg = k := nI_clamp (by omega)
          show G 24 [some (.ref 22), some (.int (nI k)), some (.int (I 24 (nI k).toNatClampNeg))] [] I L2
          rw [e1, hw2]
          refine hG [(2, [])] 50 24 _ _ _ _ (am_f (nI_pos (by omega)) (am_nf (am_lt hw1 rfl) (And.intro (am_vin hw1 rfl) ?_)))
          · show G 2 [some (.ref 22), some (.int (nI k + 1)), some (.int (nI w))] [] I (am_uj L2 23 (nI w).toNatClampNeg 0)
            rw [nI_clamp (by omega), nI_1]
            refine ih (k + 1) _ _ (by omega) (by omega) (fun a ha => (am_uj_o ha).trans (hL a ha)) (fun w2 hw3 hw4 => ?_)
            rw [am_uj_r] at hw4
            by_cases hq : w2 = w
            · rw [if_pos ⟨rfl, hq⟩] at hw4
              exact absurd rfl hw4
            · rw [if_neg (fun z => hq z.2)] at hw4
              obtain ⟨j, a, b, d⟩ := hw w2 hw3 hw4
              refine ⟨j, ?_, b, d⟩
              rcases Nat.eq_or_lt_of_le a with z | z
              · subst z
                rw [hw2] at d
                exact absurd ((nI_eq (by omega) (by omega)).mp d).symm hq
              · exact z
    refine hG [(2, [])] 50 0 _ _ _ _ ?_
    exact loop c 0 _ L (by omega) (by omega) (fun _ _ => rfl) (fun w hw q => by
      obtain ⟨j, a, b⟩ := h3 w hw q
      exact ⟨j, by omega, a, b⟩)
  · exact h.elim
theorem lg_cmp_0 (x : Int64) : lg_cmp x 0 = 0 ↔ x = 0 := by
  unfold lg_cmp
  by_cases h : x > 0
  · rw [if_pos h]
    constructor
    · intro q; exact absurd q (by decide)
    · intro q; subst q; exact absurd h (by decide)
  · rw [if_neg h]
    by_cases h2 : x = 0
    · simp [h2]
    · rw [if_neg h2]
      constructor
      · intro q; exact absurd q (by decide)
      · intro q; exact absurd q h2
theorem bl_land_0 (x : Int64) {k : Nat} (hk : k < 64) : (x &&& ((1 : Int64) <<< ((nI k).toInt64 &&& 63))) = 0 ↔ bl x k = false := by
  constructor
  · intro h
    have : bl (x &&& ((1 : Int64) <<< ((nI k).toInt64 &&& 63))) k = false := by rw [h, bl_0]
    rw [bl_and, bl_one hk hk] at this
    simpa using this
  · intro h
    apply bl_ext
    intro i hi
    rw [bl_and, bl_one hk hi, bl_0]
    by_cases e : i = k
    · subst e; simp [h]
    · simp [e]
theorem bl_lor_n0 (x : Int64) {k : Nat} (hk : k < 64) : ¬ (x ||| ((1 : Int64) <<< ((nI k).toInt64 &&& 63))) = 0 := by
  intro h
  have : bl (x ||| ((1 : Int64) <<< ((nI k).toInt64 &&& 63))) k = false := by rw [h, bl_0]
  rw [bl_or, bl_one hk hk] at this
  simp at this
theorem nI_or (a b : Nat) : nI a ||| nI b = nI (a ||| b) := by
  apply b_ext
  intro i hi
  rw [b_or, bt_nI _ _ hi, bt_nI _ _ hi, bt_nI _ _ hi, Nat.testBit_or]
theorem st_I {p b : Nat} (hp : p < 8) (hb : b < 4096) : (nI p <<< ((12 : Int32) &&& 31)) ||| nI b = nI (p * 4096 + b) := by
  rw [pk_shlN ((12 : Int32) &&& 31) 12 (by decide) (by omega), nI_or]
  congr 1
  rw [show p * 2 ^ 12 = p <<< 12 from (Nat.shiftLeft_eq p 12).symm, ← Nat.shiftLeft_add_eq_or_of_lt (show b < 2 ^ 12 by omega), Nat.shiftLeft_eq]
theorem SC_put {I : am_I} {L : am_J} {V : Nat → Bool} {st : Nat} (hst : st < 32768) (h : SC I L V) : (¬ L 23 (st / 64) = 0 → SC I (am_uj L 23 (st / 64) (L 23 (st / 64) ||| ((1 : Int64) <<< ((nI (st % 64)).toInt64 &&& 63)))) (fun s => V s || decide (s = st))) ∧
    (L 23 (st / 64) = 0 → ∃ c : Nat, c < 512 ∧ I 22 2 = nI c ∧ SC (am_ui (am_ui I 24 c (nI (st / 64))) 22 2 (nI (c + 1))) (am_uj L 23 (st / 64) (L 23 (st / 64) ||| ((1 : Int64) <<< ((nI (st % 64)).toInt64 &&& 63)))) (fun s => V s || decide (s = st))) := by
  obtain ⟨c, hc, h1, h2, h3, h4, h5⟩ := h
  have hn := bl_lor_n0 (L 23 (st / 64)) (k := st % 64) (by omega)
  have hbit : ∀ s, s < 32768 → bl (am_uj L 23 (st / 64) (L 23 (st / 64) ||| ((1 : Int64) <<< ((nI (st % 64)).toInt64 &&& 63))) 23 (s / 64)) (s % 64) = (V s || decide (s = st)) := by
    intro s hs
    rw [am_uj_r]
    by_cases e : s / 64 = st / 64
    · rw [if_pos ⟨rfl, e⟩, bl_or, bl_one (by omega) (by omega), ← e, h5 s hs]
      congr 1
      rw [Bool.eq_iff_iff]; simp only [decide_eq_true_eq]; omega
    · rw [if_neg (fun z => e z.2), h5 s hs]
      have : ¬ s = st := fun z => e (by rw [z])
      simp [this]
  constructor
  · intro hz
    refine ⟨c, hc, h1, ?_, fun w hw q => ?_, h4, hbit⟩
    · rw [h2]
      refine g_cnt_congr 512 (fun j hj => ?_)
      rw [am_uj_r]
      by_cases e : j = st / 64
      · subst e; rw [if_pos ⟨rfl, rfl⟩]; simp [hz, hn]
      · rw [if_neg (fun z => e z.2)]
    · rw [am_uj_r] at q
      by_cases e : w = st / 64
      · subst e; exact h3 _ hw hz
      · rw [if_neg (fun z => e z.2)] at q; exact h3 w hw q
  · intro hz
    have hlt : c < 512 := by
      rw [h2]
      exact g_cnt_lt (w := st / 64) (by simp [hz]) 512 (by omega)
    refine ⟨c, hlt, h1, c + 1, by omega, by simp [am_ui_r], ?_, fun w hw q => ?_, fun j hj => ?_, hbit⟩
    · rw [h2]
      refine (g_cnt_add (w := st / 64) (by simp [hz]) ?_ (fun j hj => ?_) 512 (by omega)).symm
      · rw [am_uj_r, if_pos ⟨rfl, rfl⟩]; simp [hn]
      · rw [am_uj_r, if_neg (fun z => hj z.2)]
    · rw [am_uj_r] at q
      by_cases e : w = st / 64
      · refine ⟨c, by omega, ?_⟩
        rw [am_ui_r, if_neg (by omega), am_ui_r, if_pos ⟨rfl, rfl⟩, e]
      · rw [if_neg (fun z => e z.2)] at q
        obtain ⟨j, a, b⟩ := h3 w hw q
        refine ⟨j, by omega, ?_⟩
        rw [am_ui_r, if_neg (by omega), am_ui_r, if_neg (by omega)]
        exact b
    · rw [am_ui_r, if_neg (by omega), am_ui_r]
      by_cases e : j = c
      · rw [if_pos ⟨rfl, e⟩]; exact ⟨st / 64, by omega, rfl⟩
      · rw [if_neg (fun z => e z.2)]; exact h4 j (by omega)
def T_SN_add : am_Sp := fun vs I L post => match vs with
  | [.ref o, .int x, .int y] => o = 22 ∧ ∃ p b V, p < 8 ∧ b < 4096 ∧ x = nI p ∧ y = nI b ∧ SC I L V ∧ ∀ (I2 : am_I) (L2 : am_J), SC I2 L2 (fun s => V s || decide (s = p * 4096 + b)) → (∀ a, a ≠ 22 → a ≠ 24 → I2 a = I a) → (∀ a, a ≠ 23 → L2 a = L a) → post (some (.int (am_b (V (p * 4096 + b) = false)))) I2 L2
  | _ => False
abbrev sp_SN_add : Nat → am_Sp := fun _ => am_no
set_option maxRecDepth 100000 in
theorem ok_SN_add : am_Ok am_SX sp_SN_add true k_SN_add 7 T_SN_add := by
  intro vs I L post h
  unfold T_SN_add at h
  split at h
  · rename_i o x y
    obtain ⟨rfl, p, b, V, hp, hb, rfl, rfl, hs, h⟩ := h
    refine ⟨Nat.le_of_ble_eq_true rfl, fun G hG => ?_⟩
    obtain ⟨st, hst⟩ : ∃ st, st = p * 4096 + b := ⟨_, rfl⟩
    have hlt : st < 32768 := by omega
    rw [← hst] at h
    refine hG [] 6 0 _ _ _ _ ?_
    show G 7 [some (.ref 22), some (.int (nI p)), some (.int (nI b)), some (.int ((nI p <<< ((12 : Int32) &&& 31)) ||| nI b)), none, none, none] [] I L
    rw [st_I hp hb, ← hst]
    refine hG [] 4 7 _ _ _ _ ?_
    show G 13 [some (.ref 22), some (.int (nI p)), some (.int (nI b)), some (.int (nI st)), some (.int ((nI st).toUInt32 >>> ((6 : Int32).toUInt32 &&& Int32.toUInt32 31)).toInt32), none, none] [] I L
    rw [pk_ushrN (by omega) 6 6 (by decide)]
    refine hG [] 6 13 _ _ _ _ ?_
    show G 21 [some (.ref 22), some (.int (nI p)), some (.int (nI b)), some (.int (nI st)), some (.int (nI (st / 2 ^ 6))), some (.long ((1 : Int64) <<< ((nI st &&& 63).toInt64 &&& 63))), none] [] I L
    rw [pk_andN (by omega) 6 (by decide), show st / 2 ^ 6 = st / 64 from rfl, show st % 2 ^ 6 = st % 64 from rfl]
    have hw : st / 64 < 512 := by omega
    have ew : (nI (st / 64)).toNatClampNeg = st / 64 := nI_clamp (by omega)
    have hV := hs
    obtain ⟨p1, p2⟩ := SC_put hlt hs
    obtain ⟨c, -, -, -, -, -, hbit⟩ := hV
    have hb2 := hbit st hlt
    refine hG [] 50 21 _ _ _ _ (am_nf (am_lt hw rfl) (And.intro (am_vin hw rfl) ?_))
    rw [ew]
    refine And.intro (fun q => ?_) (fun q => ?_)
    · -- new
      rw [lg_cmp_0, bl_land_0 _ (by omega)] at q
      rw [q] at hb2
      rw [am_b1 hb2.symm] at h
      refine And.intro (am_vin hw rfl) ?_
      rw [ew]
      refine And.intro (fun q2 => ?_) (fun q2 => ?_)
      · rw [lg_cmp_0] at q2
        refine And.intro (am_vin hw rfl) (And.intro (am_vin hw rfl) (And.intro (Or.inr rfl) ?_))
        show post (some (.int 1)) I (am_uj L 23 (nI (st / 64)).toNatClampNeg (L 23 (nI (st / 64)).toNatClampNeg ||| ((1 : Int64) <<< ((nI (st % 64)).toInt64 &&& 63))))
        rw [ew]
        exact h _ _ (p1 q2) (fun _ _ _ => rfl) (fun a ha => am_uj_o ha)
      · rw [lg_cmp_0] at q2
        obtain ⟨c, hc, e1, hsc⟩ := p2 q2
        have ec : (nI c).toNatClampNeg = c := nI_clamp (by omega)
        refine am_nf (by rw [e1]; exact am_lt hc rfl) (And.intro ?_ ?_)
        · show vp_in (I 22 2) 512
          rw [e1]; exact am_vin hc rfl
        · refine And.intro (am_vin hw rfl) (And.intro (am_vin hw rfl) (And.intro (Or.inr rfl) ?_))
          show post (some (.int 1)) (am_ui (am_ui I 24 (I 22 2).toNatClampNeg (nI (st / 64))) 22 2 (am_ui I 24 (I 22 2).toNatClampNeg (nI (st / 64)) 22 2 + 1)) (am_uj L 23 (nI (st / 64)).toNatClampNeg (L 23 (nI (st / 64)).toNatClampNeg ||| ((1 : Int64) <<< ((nI (st % 64)).toInt64 &&& 63))))
          rw [ew, am_ui_r, if_neg (by omega), e1, ec, nI_1]
          exact h _ _ hsc (fun a h1 h2 => (am_ui_o h1).trans (am_ui_o h2)) (fun a ha => am_uj_o ha)
    · -- seen already
      rw [lg_cmp_0, bl_land_0 _ (by omega)] at q
      have hv : V st = true := by rw [← hb2]; simpa using q
      rw [am_b0 (by simp [hv])] at h
      refine And.intro (Or.inl rfl) ?_
      exact h I L (SC_congr hs (fun s _ => by
        by_cases e : s = st
        · subst e; simp [hv]
        · simp [e])) (fun _ _ _ => rfl) (fun _ _ => rfl)
  · exact h.elim
