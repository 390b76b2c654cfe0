/-! THE CLASS, leaves: each method says what its code computes -/
def am_no : am_Sp := fun _ _ _ _ => False
def am_isR (r : Nat) : Prop := r = 1 ∨ r = 7 ∨ r = 13
def am_isS (r : Nat) : Prop := r = 26 ∨ r = 28 ∨ r = 30 ∨ r = 32
def T_RP_isFrom0 : am_Sp := fun vs I L post => match vs with
  | [.int a, .int b] => post (some (.int (am_b (0 ≤ a ∧ a < b)))) I L
  | _ => False
abbrev sp_RP_isFrom0 : Nat → am_Sp := fun _ => am_no
theorem ok_RP_isFrom0 : am_Ok am_SX sp_RP_isFrom0 true k_RP_isFrom0 2 T_RP_isFrom0 := by
  intro vs I L post h
  unfold T_RP_isFrom0 at h
  split at h
  · rename_i a b
    refine ⟨Nat.le_of_ble_eq_true rfl, fun G hG => ?_⟩
    refine hG [] 200 0 _ _ _ _ ?_
    repeat' (first | with_reducible intro _ | refine And.intro ?_ ?_)
    all_goals first
      | exact am_bb
      | exact Or.inl rfl
      | exact Or.inr rfl
      | rfl
      | (show post _ _ _; grind [am_b])
  · exact h.elim
def T_RP_isPlace : am_Sp := fun vs I L post => match vs with
  | [.int a] => post (some (.int (am_b (0 ≤ a ∧ a < 8)))) I L
  | _ => False
abbrev sp_RP_isPlace : Nat → am_Sp := fun _ => am_no
theorem ok_RP_isPlace : am_Ok am_SX sp_RP_isPlace true k_RP_isPlace 1 T_RP_isPlace := by
  intro vs I L post h
  unfold T_RP_isPlace at h
  split at h
  · rename_i a
    refine ⟨Nat.le_of_ble_eq_true rfl, fun G hG => ?_⟩
    refine hG [] 200 0 _ _ _ _ ?_
    repeat' (first | with_reducible intro _ | refine And.intro ?_ ?_)
    all_goals first
      | exact am_bb
      | exact Or.inl rfl
      | exact Or.inr rfl
      | rfl
      | (show post _ _ _; grind [am_b])
  · exact h.elim
def T_RP_isKind : am_Sp := fun vs I L post => match vs with
  | [.int a] => post (some (.int (am_b (0 ≤ a ∧ a < 4)))) I L
  | _ => False
def sp_RP_isKind : Nat → am_Sp := fun i => match i with
  | 103 => T_RP_isFrom0
  | _ => am_no
theorem ok_RP_isKind : am_Ok am_SX sp_RP_isKind true k_RP_isKind 1 T_RP_isKind := by
  intro vs I L post h
  unfold T_RP_isKind at h
  split at h
  · rename_i a
    refine ⟨Nat.le_of_ble_eq_true rfl, fun G hG => ?_⟩
    refine hG [] 200 0 _ _ _ _ ?_
    repeat' (first | with_reducible intro _ | refine And.intro ?_ ?_)
    all_goals first
      | exact am_bb
      | exact Or.inl rfl
      | exact Or.inr rfl
      | rfl
      | (show post _ _ _; grind [am_b])
  · exact h.elim
def T_RP_isFilmable : am_Sp := fun vs I L post => match vs with
  | [.int k, .int f, .int s, .int l, .int n] => post (some (.int (am_b ((0 ≤ k ∧ k < 4) ∧ (0 ≤ f ∧ f < 8) ∧ (0 ≤ s ∧ s < 4) ∧ (0 ≤ l ∧ l < 3) ∧ (1 ≤ n ∧ n ≤ 24))))) I L
  | _ => False
def sp_RP_isFilmable : Nat → am_Sp := fun i => match i with
  | 47 => T_RP_isPlace
  | 103 => T_RP_isFrom0
  | 140 => T_RP_isKind
  | _ => am_no
theorem ok_RP_isFilmable : am_Ok am_SX sp_RP_isFilmable true k_RP_isFilmable 5 T_RP_isFilmable := by
  intro vs I L post h
  unfold T_RP_isFilmable at h
  split at h
  · rename_i k f s l n
    refine ⟨Nat.le_of_ble_eq_true rfl, fun G hG => ?_⟩
    refine hG [] 200 0 _ _ _ _ ?_
    repeat' (first | with_reducible intro _ | refine And.intro ?_ ?_)
    all_goals first
      | exact am_bb
      | exact Or.inl rfl
      | exact Or.inr rfl
      | rfl
      | (show post _ _ _; grind [am_b])
  · exact h.elim
def T_RP_byteOf : am_Sp := fun vs I L post => match vs with
  | [.long w, .int k] => post (some (.int (f_byte w k))) I L
  | _ => False
abbrev sp_RP_byteOf : Nat → am_Sp := fun _ => am_no
theorem ok_RP_byteOf : am_Ok am_SX sp_RP_byteOf false k_RP_byteOf 3 T_RP_byteOf := by
  intro vs I L post h
  unfold T_RP_byteOf at h
  split at h
  · rename_i w k
    refine ⟨Nat.le_of_ble_eq_true rfl, fun G hG => ?_⟩
    exact hG [] 200 0 _ _ _ _ h
  · exact h.elim
def T_RP_bitOf : am_Sp := fun vs I L post => match vs with
  | [.int s, .int e] => post (some (.int (f_bit s e))) I L
  | _ => False
abbrev sp_RP_bitOf : Nat → am_Sp := fun _ => am_no
theorem ok_RP_bitOf : am_Ok am_SX sp_RP_bitOf false k_RP_bitOf 2 T_RP_bitOf := by
  intro vs I L post h
  unfold T_RP_bitOf at h
  split at h
  · rename_i s e
    refine ⟨Nat.le_of_ble_eq_true rfl, fun G hG => ?_⟩
    exact hG [] 200 0 _ _ _ _ h
  · exact h.elim
def T_KD_takes : am_Sp := fun vs I L post => match vs with
  | [.int k, .int s, .int f] => post (some (.int (if k = 0 ∨ (¬ f = 0 ∧ (k = 1 ∨ k = 3)) then (if s = 0 then 0 else 1) else if k = 3 then (if s = 0 then 1 else 0) else 2))) I L
  | _ => False
abbrev sp_KD_takes : Nat → am_Sp := fun _ => am_no
theorem ok_KD_takes : am_Ok am_SX sp_KD_takes false k_KD_takes 3 T_KD_takes := by
  intro vs I L post h
  unfold T_KD_takes at h
  split at h
  · rename_i k s f
    refine ⟨Nat.le_of_ble_eq_true rfl, fun G hG => ?_⟩
    refine hG [] 200 0 _ _ _ _ ?_
    repeat' (first | with_reducible intro _ | refine And.intro ?_ ?_)
    all_goals first
      | exact am_bb
      | exact Or.inl rfl
      | exact Or.inr rfl
      | rfl
      | (show post _ _ _; grind [am_b])
  · exact h.elim
def f_pair (a b : Int32) : Int64 := ((1 : Int64) <<< ((a * 8 + b).toInt64 &&& 63)) ||| ((1 : Int64) <<< ((b * 8 + a).toInt64 &&& 63))
def f_bc1 (x : Int32) : Int32 := x - ((x.toUInt32 >>> ((1 : Int32).toUInt32 &&& Int32.toUInt32 31)).toInt32 &&& 1431655765)
def f_bc2 (x : Int32) : Int32 := (x &&& 858993459) + ((x.toUInt32 >>> ((2 : Int32).toUInt32 &&& Int32.toUInt32 31)).toInt32 &&& 858993459)
def f_bc3 (x : Int32) : Int32 := (x + (x.toUInt32 >>> ((4 : Int32).toUInt32 &&& Int32.toUInt32 31)).toInt32) &&& 252645135
def f_bc4 (x : Int32) : Int32 := x + (x.toUInt32 >>> ((8 : Int32).toUInt32 &&& Int32.toUInt32 31)).toInt32
def f_bc5 (x : Int32) : Int32 := x + (x.toUInt32 >>> ((16 : Int32).toUInt32 &&& Int32.toUInt32 31)).toInt32
def f_bc (x : Int32) : Int32 := f_bc5 (f_bc4 (f_bc3 (f_bc2 (f_bc1 x)))) &&& 63
def T_NT_pair : am_Sp := fun vs I L post => match vs with
  | [.int a, .int b] => post (some (.long (f_pair a b))) I L
  | _ => False
abbrev sp_NT_pair : Nat → am_Sp := fun _ => am_no
theorem ok_NT_pair : am_Ok am_SX sp_NT_pair false k_NT_pair 2 T_NT_pair := by
  intro vs I L post h
  unfold T_NT_pair at h
  split at h
  · rename_i a b
    refine ⟨Nat.le_of_ble_eq_true rfl, fun G hG => ?_⟩
    exact hG [] 200 0 _ _ _ _ h
  · exact h.elim
def T_IN_bitCount : am_Sp := fun vs I L post => match vs with
  | [.int a] => post (some (.int (f_bc a))) I L
  | _ => False
abbrev sp_IN_bitCount : Nat → am_Sp := fun _ => am_no
theorem ok_IN_bitCount : am_Ok am_SX sp_IN_bitCount false k_IN_bitCount 1 T_IN_bitCount := by
  intro vs I L post h
  unfold T_IN_bitCount at h
  split at h
  · rename_i a
    refine ⟨Nat.le_of_ble_eq_true rfl, fun G hG => ?_⟩
    unfold f_bc at h
    refine hG [] 8 0 _ _ _ _ ?_
    show G 10 [some (.int (f_bc1 a))] [] I L
    generalize f_bc1 a = x1 at h ⊢
    refine hG [] 10 10 _ _ _ _ ?_
    show G 24 [some (.int (f_bc2 x1))] [] I L
    generalize f_bc2 x1 = x2 at h ⊢
    refine hG [] 8 24 _ _ _ _ ?_
    show G 34 [some (.int (f_bc3 x2))] [] I L
    generalize f_bc3 x2 = x3 at h ⊢
    refine hG [] 6 34 _ _ _ _ ?_
    show G 41 [some (.int (f_bc4 x3))] [] I L
    generalize f_bc4 x3 = x4 at h ⊢
    refine hG [] 6 41 _ _ _ _ ?_
    show G 48 [some (.int (f_bc5 x4))] [] I L
    generalize f_bc5 x4 = x5 at h ⊢
    exact hG [] 6 48 _ _ _ _ h
  · exact h.elim
def T_SH_isNothing : am_Sp := fun vs I L post => match vs with
  | [.ref o] => am_isS o ∧ post (some (.int (am_b (I o 1 = -1)))) I L
  | _ => False
abbrev sp_SH_isNothing : Nat → am_Sp := fun _ => am_no
theorem ok_SH_isNothing : am_Ok am_SX sp_SH_isNothing true k_SH_isNothing 1 T_SH_isNothing := by
  intro vs I L post h
  unfold T_SH_isNothing at h
  split at h
  · rename_i o
    obtain ⟨hr, h⟩ := h
    refine ⟨Nat.le_of_ble_eq_true rfl, fun G hG => ?_⟩
    rcases hr with rfl | rfl | rfl | rfl
    all_goals
      refine hG [] 200 0 _ _ _ _ ?_
      repeat' (first | with_reducible intro _ | refine And.intro ?_ ?_)
      all_goals first
        | exact am_bb
        | exact Or.inl rfl
        | exact Or.inr rfl
        | rfl
        | (show post _ _ _; grind [am_b])
  · exact h.elim
def T_SH_refusal : am_Sp := fun vs I L post => match vs with
  | [.ref o, .int a] => am_isS o ∧ post (some (.int (if I o 1 = -1 then -11 else if I o 1 = a then 0 else -12))) I L
  | _ => False
def sp_SH_refusal : Nat → am_Sp := fun i => match i with
  | 19 => T_SH_isNothing
  | _ => am_no
theorem ok_SH_refusal : am_Ok am_SX sp_SH_refusal false k_SH_refusal 2 T_SH_refusal := by
  intro vs I L post h
  unfold T_SH_refusal at h
  split at h
  · rename_i o a
    obtain ⟨hr, h⟩ := h
    refine ⟨Nat.le_of_ble_eq_true rfl, fun G hG => ?_⟩
    rcases hr with rfl | rfl | rfl | rfl
    all_goals
      refine hG [] 200 0 _ _ _ _ ?_
      repeat' (first | with_reducible intro _ | refine And.intro ?_ ?_)
      all_goals first
        | exact Or.inl rfl
        | exact Or.inl rfl
        | exact Or.inr rfl
        | exact Or.inr (Or.inl rfl)
        | exact Or.inr (Or.inr (Or.inl rfl))
        | exact Or.inr (Or.inr (Or.inr rfl))
        | rfl
        | (show post _ _ _; grind [am_b])
  · exact h.elim
def f_has (I : am_I) (o : Nat) (i n : Int32) : Prop := 0 ≤ i ∧ 0 ≤ n ∧ i ≤ I o 2 ∧ n ≤ I o 2 - i
def f_hasD (I : am_I) (o : Nat) (i n : Int32) : Decidable (f_has I o i n) := by unfold f_has; exact inferInstance
def f_hasB (I : am_I) (o : Nat) (i n : Int32) : Int32 := am_b (0 ≤ i ∧ 0 ≤ n ∧ i ≤ I o 2 ∧ n ≤ I o 2 - i)
def T_SH_has : am_Sp := fun vs I L post => match vs with
  | [.ref o, .int i, .int n] => am_isS o ∧ post (some (.int (f_hasB I o i n))) I L
  | _ => False
abbrev sp_SH_has : Nat → am_Sp := fun _ => am_no
theorem ok_SH_has : am_Ok am_SX sp_SH_has true k_SH_has 3 T_SH_has := by
  intro vs I L post h
  unfold T_SH_has at h
  split at h
  · rename_i o i n
    obtain ⟨hr, h⟩ := h
    refine ⟨Nat.le_of_ble_eq_true rfl, fun G hG => ?_⟩
    rcases hr with rfl | rfl | rfl | rfl
    all_goals
      refine hG [] 200 0 _ _ _ _ ?_
      repeat' (first | with_reducible intro _ | refine And.intro ?_ ?_)
      all_goals first
        | exact am_bb
        | exact Or.inl rfl
        | exact Or.inr rfl
        | rfl
        | (show post _ _ _; unfold f_hasB at h; grind [am_b])
  · exact h.elim
def T_SH_itemAt : am_Sp := fun vs I L post => match vs with
  | [.ref o, .int i] => am_isS o ∧ ((f_hasB I o i 1 = 1 → vp_in i 24) ∧ post (some (.long (if f_hasB I o i 1 = 1 then L (o + 1) i.toNatClampNeg else -4))) I L)
  | _ => False
def sp_SH_itemAt : Nat → am_Sp := fun i => match i with
  | 30 => T_SH_has
  | _ => am_no
theorem ok_SH_itemAt : am_Ok am_SX sp_SH_itemAt false k_SH_itemAt 2 T_SH_itemAt := by
  intro vs I L post h
  unfold T_SH_itemAt at h
  split at h
  · rename_i o i
    obtain ⟨hr, hv, h⟩ := h
    refine ⟨Nat.le_of_ble_eq_true rfl, fun G hG => ?_⟩
    rcases hr with rfl | rfl | rfl | rfl
    all_goals
      refine hG [] 200 0 _ _ _ _ ?_
      repeat' (first | with_reducible intro _ | refine And.intro ?_ ?_)
      all_goals first
        | exact am_bb
        | exact Or.inl rfl
        | exact Or.inr (Or.inl rfl)
        | exact Or.inr (Or.inr rfl)
        | exact Or.inr (Or.inr (Or.inl rfl))
        | exact Or.inr (Or.inr (Or.inr rfl))
        | rfl
        | (exact hv (by unfold f_hasB at *; grind [am_b]))
        | (show post _ _ _; unfold f_hasB at *; grind [am_b])
  · exact h.elim
def f_cut (ln : Int32) (v : Int64) : Int64 := if ln = 0 then v.toInt32.toInt8.toInt32.toInt64 else if ln = 1 then v.toInt32.toInt16.toInt32.toInt64 else v
def T_SH_put : am_Sp := fun vs I L post => match vs with
  | [.ref o, .int i, .long v] => am_isS o ∧ ((f_hasB I o i 1 = 1 → vp_in i 24) ∧ post none I (if f_hasB I o i 1 = 1 then am_uj L (o + 1) i.toNatClampNeg (f_cut (I o 1) v) else L))
  | _ => False
def sp_SH_put : Nat → am_Sp := fun i => match i with
  | 30 => T_SH_has
  | _ => am_no
theorem ok_SH_put : am_Ok am_SX sp_SH_put false k_SH_put 4 T_SH_put := by
  intro vs I L post h
  unfold T_SH_put at h
  split at h
  · rename_i o i v
    obtain ⟨hr, hv, h⟩ := h
    refine ⟨Nat.le_of_ble_eq_true rfl, fun G hG => ?_⟩
    rcases hr with rfl | rfl | rfl | rfl
    all_goals
      refine hG [] 200 0 _ _ _ _ ?_
      repeat' (first | with_reducible intro _ | refine And.intro ?_ ?_)
      all_goals first
        | exact am_bb
        | exact Or.inl rfl
        | exact Or.inr (Or.inl rfl)
        | exact Or.inr (Or.inr rfl)
        | exact Or.inr (Or.inr (Or.inl rfl))
        | exact Or.inr (Or.inr (Or.inr rfl))
        | rfl
        | (exact hv (by unfold f_hasB at *; grind [am_b]))
        | (show post _ _ _; unfold f_hasB f_cut at *; grind [am_b])
  · exact h.elim
def T_SH_become : am_Sp := fun vs I L post => match vs with
  | [.ref o, .int a, .int n] => am_isS o ∧ post none (am_ui (am_ui I o 1 a) o 2 n) L
  | _ => False
abbrev sp_SH_become : Nat → am_Sp := fun _ => am_no
theorem ok_SH_become : am_Ok am_SX sp_SH_become false k_SH_become 3 T_SH_become := by
  intro vs I L post h
  unfold T_SH_become at h
  split at h
  · rename_i o a n
    obtain ⟨hr, h⟩ := h
    refine ⟨Nat.le_of_ble_eq_true rfl, fun G hG => ?_⟩
    rcases hr with rfl | rfl | rfl | rfl
    all_goals
      exact hG [] 200 0 _ _ _ _ h
  · exact h.elim
