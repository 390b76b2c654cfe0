/-! THE REFERENCE, leaves -/
theorem am_cmp_lt (x y : Int64) : lg_cmp x y < 0 ↔ x < y := by
  unfold lg_cmp
  by_cases h : x > y
  · rw [if_pos h]
    exact ⟨fun q => absurd q (by decide), fun q => absurd (Int64.lt_trans q h) Int64.lt_irrefl⟩
  · rw [if_neg h]
    by_cases h2 : x = y
    · rw [if_pos h2]; subst h2
      exact ⟨fun q => absurd q (by decide), fun q => absurd q Int64.lt_irrefl⟩
    · rw [if_neg h2]
      refine ⟨fun _ => ?_, fun _ => by decide⟩
      rcases Int64.lt_or_eq_of_le (Int64.not_lt.mp h) with z | z
      · exact z
      · exact absurd z h2
theorem am_cmp_gt (x y : Int64) : 0 < lg_cmp x y ↔ y < x := by
  unfold lg_cmp
  by_cases h : x > y
  · rw [if_pos h]; exact ⟨fun _ => h, fun _ => by decide⟩
  · rw [if_neg h]
    by_cases h2 : x = y
    · rw [if_pos h2]; exact ⟨fun q => absurd q (by decide), fun q => absurd q h⟩
    · rw [if_neg h2]; exact ⟨fun q => absurd q (by decide), fun q => absurd q h⟩
theorem fw_le (a b : Int32) : a.toInt64 ≤ b.toInt64 ↔ a ≤ b := by
  rw [Int64.le_iff_toInt_le, Int32.le_iff_toInt_le, Int32.toInt_toInt64, Int32.toInt_toInt64]
def f_h (s k : Int32) : Int32 := (s >>> (k &&& 31)) &&& 1
theorem f_h_nI (m : Nat) {k : Nat} (hk : k < 32) : f_h (nI m) (nI k) = am_b (m.testBit k = true) := by
  unfold f_h
  rw [has_eq _ hk]
  exact am_bc (by rw [bt_nI _ _ hk])
def T_MD_in : am_Sp := fun vs I L post => match vs with
  | [.long v, .long a, .long b] => post (some (.int (am_b (a ≤ v ∧ v ≤ b)))) I L
  | _ => False
abbrev sp_MD_in : Nat → am_Sp := fun _ => am_no
theorem ok_MD_in : am_Ok am_SM sp_MD_in true k_MD_in 6 T_MD_in := by
  intro vs I L post h
  unfold T_MD_in at h
  split at h
  · rename_i v a b
    refine ⟨Nat.le_of_ble_eq_true rfl, fun G hG => ?_⟩
    refine hG [] 200 0 _ _ _ _ ?_
    repeat' (first | with_reducible intro _ | refine And.intro ?_ ?_)
    all_goals first
      | exact am_bb
      | exact Or.inl rfl
      | exact Or.inr rfl
      | rfl
      | (show post _ _ _; simp only [am_cmp_lt, am_cmp_gt] at *; grind [am_b])
  · exact h.elim
def T_MD_has : am_Sp := fun vs I L post => match vs with
  | [.int s, .int k] => post (some (.int (am_b (f_h s k = 1)))) I L
  | _ => False
abbrev sp_MD_has : Nat → am_Sp := fun _ => am_no
theorem ok_MD_has : am_Ok am_SM sp_MD_has true k_MD_has 2 T_MD_has := by
  intro vs I L post h
  unfold T_MD_has at h
  split at h
  · rename_i s k
    refine ⟨Nat.le_of_ble_eq_true rfl, fun G hG => ?_⟩
    refine hG [] 200 0 _ _ _ _ ?_
    repeat' (first | with_reducible intro _ | refine And.intro ?_ ?_)
    all_goals first
      | exact am_bb
      | exact Or.inl rfl
      | exact Or.inr rfl
      | rfl
      | (show post _ _ _; unfold f_h at h; grind [am_b])
  · exact h.elim
def T_MD_greater : am_Sp := fun vs I L post => match vs with
  | [.int a, .int b] => post (some (.int (if b < a then a else b))) I L
  | _ => False
abbrev sp_MD_greater : Nat → am_Sp := fun _ => am_no
theorem ok_MD_greater : am_Ok am_SM sp_MD_greater false k_MD_greater 2 T_MD_greater := by
  intro vs I L post h
  unfold T_MD_greater at h
  split at h
  · rename_i a b
    refine ⟨Nat.le_of_ble_eq_true rfl, fun G hG => ?_⟩
    refine hG [] 200 0 _ _ _ _ ?_
    repeat' (first | with_reducible intro _ | refine And.intro ?_ ?_)
    all_goals first
      | exact am_bb
      | exact Or.inl rfl
      | exact Or.inr rfl
      | rfl
      | (show post _ _ _; grind [am_b])
  · exact h.elim
def T_MD_isPlace : am_Sp := fun vs I L post => match vs with
  | [.int a] => post (some (.int (am_b (0 ≤ a ∧ a < 8)))) I L
  | _ => False
def sp_MD_isPlace : Nat → am_Sp := fun i => match i with
  | 62 => T_MD_in
  | _ => am_no
theorem ok_MD_isPlace : am_Ok am_SM sp_MD_isPlace true k_MD_isPlace 1 T_MD_isPlace := by
  intro vs I L post h
  unfold T_MD_isPlace at h
  split at h
  · rename_i a
    refine ⟨Nat.le_of_ble_eq_true rfl, fun G hG => ?_⟩
    have e : am_b ((0 : Int64) ≤ a.toInt64 ∧ a.toInt64 ≤ 7) = am_b (0 ≤ a ∧ a < 8) := am_bc (by
      rw [show (0 : Int64) = (0 : Int32).toInt64 from by decide, show (7 : Int64) = (7 : Int32).toInt64 from by decide, fw_le, fw_le]
      grind)
    rw [← e] at h
    exact hG [] 200 0 _ _ _ _ (And.intro am_bb h)
  · exact h.elim
def T_MD_isKind : am_Sp := fun vs I L post => match vs with
  | [.int a] => post (some (.int (am_b (0 ≤ a ∧ a < 4)))) I L
  | _ => False
def sp_MD_isKind : Nat → am_Sp := fun i => match i with
  | 62 => T_MD_in
  | _ => am_no
theorem ok_MD_isKind : am_Ok am_SM sp_MD_isKind true k_MD_isKind 1 T_MD_isKind := by
  intro vs I L post h
  unfold T_MD_isKind at h
  split at h
  · rename_i a
    refine ⟨Nat.le_of_ble_eq_true rfl, fun G hG => ?_⟩
    have e : am_b ((0 : Int64) ≤ a.toInt64 ∧ a.toInt64 ≤ 3) = am_b (0 ≤ a ∧ a < 4) := am_bc (by
      rw [show (0 : Int64) = (0 : Int32).toInt64 from by decide, show (3 : Int64) = (3 : Int32).toInt64 from by decide, fw_le, fw_le]
      grind)
    rw [← e] at h
    exact hG [] 200 0 _ _ _ _ (And.intro am_bb h)
  · exact h.elim
def T_MD_isSheet : am_Sp := fun vs I L post => match vs with
  | [.int a] => post (some (.int (am_b (0 ≤ a ∧ a < 4)))) I L
  | _ => False
def sp_MD_isSheet : Nat → am_Sp := fun i => match i with
  | 62 => T_MD_in
  | _ => am_no
theorem ok_MD_isSheet : am_Ok am_SM sp_MD_isSheet true k_MD_isSheet 1 T_MD_isSheet := by
  intro vs I L post h
  unfold T_MD_isSheet at h
  split at h
  · rename_i a
    refine ⟨Nat.le_of_ble_eq_true rfl, fun G hG => ?_⟩
    have e : am_b ((0 : Int64) ≤ a.toInt64 ∧ a.toInt64 ≤ 3) = am_b (0 ≤ a ∧ a < 4) := am_bc (by
      rw [show (0 : Int64) = (0 : Int32).toInt64 from by decide, show (3 : Int64) = (3 : Int32).toInt64 from by decide, fw_le, fw_le]
      grind)
    rw [← e] at h
    exact hG [] 200 0 _ _ _ _ (And.intro am_bb h)
  · exact h.elim
def T_MD_isWay : am_Sp := fun vs I L post => match vs with
  | [.ref o, .int k] => o = 0 ∧ post (some (.int (am_b (0 ≤ k ∧ k ≤ I 1 0 - 1)))) I L
  | _ => False
def sp_MD_isWay : Nat → am_Sp := fun i => match i with
  | 62 => T_MD_in
  | _ => am_no
theorem ok_MD_isWay : am_Ok am_SM sp_MD_isWay true k_MD_isWay 2 T_MD_isWay := by
  intro vs I L post h
  unfold T_MD_isWay at h
  split at h
  · rename_i o k
    obtain ⟨rfl, h⟩ := h
    refine ⟨Nat.le_of_ble_eq_true rfl, fun G hG => ?_⟩
    have e : am_b ((0 : Int64) ≤ k.toInt64 ∧ k.toInt64 ≤ (I 1 0 - 1).toInt64) = am_b (0 ≤ k ∧ k ≤ I 1 0 - 1) := am_bc (by
      rw [show (0 : Int64) = (0 : Int32).toInt64 from by decide, fw_le, fw_le])
    rw [← e] at h
    exact hG [] 200 0 _ _ _ _ (And.intro (am_vin (n := 0) (by decide) rfl) (And.intro am_bb h))
  · exact h.elim
def T_MD_cutTo : am_Sp := fun vs I L post => match vs with
  | [.int a, .long v] => post (some (.long (f_cut a v))) I L
  | _ => False
abbrev sp_MD_cutTo : Nat → am_Sp := fun _ => am_no
theorem ok_MD_cutTo : am_Ok am_SM sp_MD_cutTo false k_MD_cutTo 3 T_MD_cutTo := by
  intro vs I L post h
  unfold T_MD_cutTo at h
  split at h
  · rename_i a v
    refine ⟨Nat.le_of_ble_eq_true rfl, fun G hG => ?_⟩
    refine hG [] 200 0 _ _ _ _ ?_
    repeat' (first | with_reducible intro _ | refine And.intro ?_ ?_)
    all_goals first
      | exact am_bb
      | exact Or.inl rfl
      | exact Or.inr rfl
      | rfl
      | (show post _ _ _; unfold f_cut at h; grind)
  · exact h.elim
/-- what is against n items of a sheet -/
def f_bars (I : am_I) (s a i n : Int32) : Int32 := if I 13 s.toNatClampNeg < 0 then -11 else if ¬ I 13 s.toNatClampNeg = a then -12 else if i < 0 ∨ n < 0 ∨ (I 14 s.toNatClampNeg).toInt64 < i.toInt64 + n.toInt64 then -13 else 0
def T_MD_bars : am_Sp := fun vs I L post => match vs with
  | [.ref o, .int s, .int a, .int i, .int n] => o = 0 ∧ ((0 ≤ s ∧ s < 4) ∧ post (some (.int (f_bars I s a i n))) I L)
  | _ => False
abbrev sp_MD_bars : Nat → am_Sp := fun _ => am_no
set_option maxRecDepth 100000 in
theorem ok_MD_bars : am_Ok am_SM sp_MD_bars false k_MD_bars 5 T_MD_bars := by
  intro vs I L post h
  unfold T_MD_bars at h
  split at h
  · rename_i o s a i n
    obtain ⟨rfl, hs, h⟩ := h
    refine ⟨Nat.le_of_ble_eq_true rfl, fun G hG => ?_⟩
    refine hG [] 200 0 _ _ _ _ ?_
    repeat' (first | with_reducible intro _ | refine And.intro ?_ ?_)
    all_goals first
      | exact am_bb
      | exact Or.inl rfl
      | exact Or.inr rfl
      | rfl
      | exact am_in_of (n := 4) (by omega) hs
      | (show post _ _ _; simp only [am_cmp_lt, am_cmp_gt] at *; unfold f_bars at h; grind)
  · exact h.elim
def T_MD_ones : am_Sp := fun vs I L post => match vs with
  | [.int s] => ∃ m, s = nI m ∧ post (some (.int (nI (g_pc m 12)))) I L
  | _ => False
abbrev sp_MD_ones : Nat → am_Sp := fun _ => am_no
theorem ok_MD_ones : am_Ok am_SM sp_MD_ones false k_MD_ones 3 T_MD_ones := by
  intro vs I L post h
  unfold T_MD_ones at h
  split at h
  · rename_i s
    obtain ⟨m, rfl, h⟩ := h
    refine ⟨Nat.le_of_ble_eq_true rfl, fun G hG => ?_⟩
    have loop : ∀ n k, 12 - k = n → k ≤ 12 → G 4 [some (.int (nI m)), some (.int (nI (g_pc m k))), some (.int (nI k))] [] I L := by
      intro n
      induction n with
      | zero =>
        intro k hn hk
        have : k = 12 := by omega
        subst this
        exact hG [(4, [])] 50 4 _ _ _ _ (am_nt (am_nlt (Nat.le_refl 12) rfl) h)
      | succ n ih =>
        intro k hn hk
        refine hG [(4, [])] 50 4 _ _ _ _ (am_nf (am_lt (by omega : k < 12) rfl) ?_)
        show G 4 [some (.int (nI m)), some (.int (nI (g_pc m k) + f_h (nI m) (nI k))), some (.int (nI k + 1))] [] I L
        rw [nI_1, f_h_nI m (by omega)]
        have e : nI (g_pc m k) + am_b (m.testBit k = true) = nI (g_pc m (k + 1)) := by
          show _ = nI (g_pc m k + if m.testBit k = true then 1 else 0)
          by_cases hb : m.testBit k = true
          · rw [am_b1 hb, if_pos hb, nI_1]
          · rw [am_b0 hb, if_neg hb, ← nI_0, nI_add]
        rw [e]
        exact ih (k + 1) (by omega) (by omega)
    refine hG [(4, [])] 50 0 _ _ _ _ ?_
    exact loop 12 0 (by omega) (by omega)
  · exact h.elim
/-- the reference's block holds G -/
def RM (I : am_I) (b : Nat) (G : Nat → Nat) : Prop := ∀ i, i < 45 → I 1 (b + i) = nI (G i)
theorem RM_i {I : am_I} {G : Nat → Nat} (h : RM I 0 G) (i : Nat) (hi : i < 45) : I 1 i = nI (G i) := by
  have := h i hi
  rwa [Nat.zero_add] at this
theorem RM_fr {I I2 : am_I} {b : Nat} {G : Nat → Nat} (h : RM I b G) (e : I2 1 = I 1) : RM I2 b G := fun i hi => by rw [e]; exact h i hi
theorem WG_e {G : Nat → Nat} (h : WG G) {k : Nat} (hk : k < G 0) : k < 12 ∧ G (1 + k) < 8 ∧ G (13 + k) < 8 := by
  have := h.1
  have := h.2.1 k hk
  omega
def T_MD_between : am_Sp := fun vs I L post => match vs with
  | [.ref o, .int x, .int y] => o = 0 ∧ ∃ G a b, WG G ∧ RM I 0 G ∧ a < 8 ∧ b < 8 ∧ x = nI a ∧ y = nI b ∧ post (some (.int (nI (g_wy G a b) - 1))) I L
  | _ => False
abbrev sp_MD_between : Nat → am_Sp := fun _ => am_no
set_option maxRecDepth 100000 in
theorem ok_MD_between : am_Ok am_SM sp_MD_between false k_MD_between 6 T_MD_between := by
  intro vs I L post h
  unfold T_MD_between at h
  split at h
  · rename_i o x y
    obtain ⟨rfl, G, a, b, hW, hM, ha, hb, rfl, rfl, h⟩ := h
    refine ⟨Nat.le_of_ble_eq_true rfl, fun G2 hG2 => ?_⟩
    have h12 := hW.1
    have w0 : I 1 0 = nI (G 0) := RM_i hM 0 (by omega)
    have loop : ∀ n k, G 0 - k = n → k ≤ G 0 → G2 5 [some (.ref 0), some (.int (nI a)), some (.int (nI b)), some (.int (nI (g_w G a b k) - 1)), some (.int (nI k)), none] [] I L := by
      intro n
      induction n with
      | zero =>
        intro k hn hk
        have e : k = G 0 := by omega
        subst e
        exact hG2 [(5, [1, 1, 1, 1, 1, 0])] 50 5 _ _ _ _ (And.intro (am_vin (n := 0) (by decide) rfl) (am_nt (by rw [show I 1 (0 : Int32).toNatClampNeg = nI (G 0) from w0]; exact nI_nlt (Nat.le_refl _) (by omega)) h))
      | succ n ih =>
        intro k hn hk
        have hk2 : k < G 0 := by omega
        obtain ⟨k12, ea, eb⟩ := WG_e hW hk2
        have i1 : ((1 : Int32) + nI k).toNatClampNeg = 1 + k := by rw [show (1 : Int32) = nI 1 from rfl, nI_add, nI_clamp (by omega)]
        have i2 : ((13 : Int32) + nI k).toNatClampNeg = 13 + k := by rw [show (13 : Int32) = nI 13 from rfl, nI_add, nI_clamp (by omega)]
        have v1 : vp_in ((1 : Int32) + nI k) 90 := by rw [show (1 : Int32) = nI 1 from rfl, nI_add]; exact am_vin (by omega) rfl
        have v2 : vp_in ((13 : Int32) + nI k) 90 := by rw [show (13 : Int32) = nI 13 from rfl, nI_add]; exact am_vin (by omega) rfl
        have wa : I 1 ((1 : Int32) + nI k).toNatClampNeg = nI (G (1 + k)) := by rw [i1]; exact RM_i hM _ (by omega)
        have wb : I 1 ((13 : Int32) + nI k).toNatClampNeg = nI (G (13 + k)) := by rw [i2]; exact RM_i hM _ (by omega)
        have key : ∀ z : Int32, z = nI (g_w G a b (k + 1)) - 1 → G2 5 [some (.ref 0), some (.int (nI a)), some (.int (nI b)), some (.int z), some (.int (nI k + 1)), none] [] I L := fun z hz => by
          rw [hz, nI_1]; exact ih (k + 1) (by omega) (by omega)
        have yes : g_j G a b k = true → G2 5 [some (.ref 0), some (.int (nI a)), some (.int (nI b)), some (.int (nI k)), some (.int (nI k + 1)), none] [] I L := fun hj => key _ (by simp only [g_w, hj, if_true]; rw [nI_pred])
        have no : ¬ g_j G a b k = true → G2 5 [some (.ref 0), some (.int (nI a)), some (.int (nI b)), some (.int (nI (g_w G a b k) - 1)), some (.int (nI k + 1)), none] [] I L := fun hj => key _ (by simp only [g_w, hj, if_false]; simp)
        have ca : ∀ u, u < 8 → (I 1 ((1 : Int32) + nI k).toNatClampNeg = nI u ↔ G (1 + k) = u) := fun u hu => by rw [wa, nI_eq (by omega) (by omega)]
        have cb : ∀ u, u < 8 → (I 1 ((13 : Int32) + nI k).toNatClampNeg = nI u ↔ G (13 + k) = u) := fun u hu => by rw [wb, nI_eq (by omega) (by omega)]
        have c1 := ca a ha
        have c2 := cb b hb
        have c3 := ca b hb
        have c4 := cb a ha
        refine hG2 [(5, [1, 1, 1, 1, 1, 0])] 80 5 _ _ _ _ (And.intro (am_vin (n := 0) (by decide) rfl) (am_nf (by rw [show I 1 (0 : Int32).toNatClampNeg = nI (G 0) from w0]; exact nI_lt hk2 (by omega)) (And.intro v1 ?_)))
        have hjd : g_j G a b k = true ↔ (G (1 + k) = a ∧ G (13 + k) = b) ∨ (G (1 + k) = b ∧ G (13 + k) = a) := by simp [g_j]
        refine And.intro (fun q1 => ?_) (fun q1 => And.intro v2 (And.intro (fun q2 => ?_) (fun q2 => ?_)))
        · refine And.intro v1 (And.intro (fun q3 => ?_) (fun q3 => And.intro v2 (And.intro (fun q4 => ?_) (fun q4 => ?_))))
          · exact And.intro (fun _ => no (by grind)) (fun q => absurd rfl q)
          · exact And.intro (fun _ => no (by grind)) (fun q => absurd rfl q)
          · exact And.intro (fun q => absurd q (by decide)) (fun _ => yes (by grind))
        · exact And.intro (fun q => absurd q (by decide)) (fun _ => yes (by grind))
        · refine And.intro v1 (And.intro (fun q3 => ?_) (fun q3 => And.intro v2 (And.intro (fun q4 => ?_) (fun q4 => ?_))))
          · exact And.intro (fun _ => no (by grind)) (fun q => absurd rfl q)
          · exact And.intro (fun _ => no (by grind)) (fun q => absurd rfl q)
          · exact And.intro (fun q => absurd q (by decide)) (fun _ => yes (by grind))
    refine hG2 [(5, [1, 1, 1, 1, 1, 0])] 50 0 _ _ _ _ ?_
    exact loop (G 0) 0 (by omega) (by omega)
  · exact h.elim
