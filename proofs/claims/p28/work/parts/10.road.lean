/-! THE CLASS, roads -/
theorem am_rng {x : Int32} {n : Nat} (hn : n < 2 ^ 31) (h0 : 0 ≤ x) (h1 : x < nI n) : ∃ j : Nat, j < n ∧ x = nI j := by
  have a := Int32.le_iff_toInt_le.mp h0
  have b := Int32.lt_iff_toInt_lt.mp h1
  rw [nI_toInt hn] at b
  have c : (0 : Int32).toInt = 0 := by decide
  rw [c] at a
  exact vp_in_of (vp_in_iff.mpr ⟨a, b⟩) hn
theorem am_inj8 {a b : Int32} (h1 : 0 ≤ a ∧ a < 8) (h2 : 0 ≤ b ∧ b < 8) : vp_in (a * 8 + b) 64 := by
  obtain ⟨i, hi, rfl⟩ := am_rng (n := 8) (by omega) h1.1 h1.2
  obtain ⟨j, hj, rfl⟩ := am_rng (n := 8) (by omega) h2.1 h2.2
  rw [show (8 : Int32) = nI 8 from rfl, pk_mul, nI_add]
  exact vp_in_nI (by omega) (by omega)
theorem am_in_of {a : Int32} {n : Nat} (hn : n < 2 ^ 31) (h : 0 ≤ a ∧ a < nI n) : vp_in a n := by
  obtain ⟨i, hi, rfl⟩ := am_rng hn h.1 h.2
  exact vp_in_nI hi hn
theorem am_in8 {a : Int32} (h : 0 ≤ a ∧ a < 8) : vp_in a 8 := am_in_of (n := 8) (by omega) h
theorem am_in12 {a : Int32} (h : 0 ≤ a ∧ a < 12) : vp_in a 12 := am_in_of (n := 12) (by omega) h
theorem am_pq {post : am_Po} {v v' : Option Value} {I I' : am_I} {L L' : am_J} (h : post v I L) (h1 : v = v') (h2 : I = I') (h3 : L = L') : post v' I' L' := by
  subst h1 h2 h3; exact h
theorem am_ui_r (I : am_I) (o k : Nat) (x : Int32) (a b : Nat) : am_ui I o k x a b = if a = o ∧ b = k then x else I a b := rfl
theorem am_uj_r (I : am_J) (o k : Nat) (x : Int64) (a b : Nat) : am_uj I o k x a b = if a = o ∧ b = k then x else I a b := rfl
theorem am_t {c A B : Prop} (h : c) (a : A) : (c → A) ∧ (¬ c → B) := ⟨fun _ => a, fun q => absurd h q⟩
theorem am_f {c A B : Prop} (h : ¬ c) (b : B) : (c → A) ∧ (¬ c → B) := ⟨fun q => absurd q h, fun _ => b⟩
theorem am_nt {c A B : Prop} (h : ¬ c) (a : A) : (¬ c → A) ∧ (c → B) := ⟨fun _ => a, fun q => absurd q h⟩
theorem am_nf {c A B : Prop} (h : c) (b : B) : (¬ c → A) ∧ (c → B) := ⟨fun q => absurd h q, fun _ => b⟩
theorem am_bp {P : Prop} [Decidable P] (h : P) : ¬ am_b P = 0 := by rw [am_b1 h]; decide
theorem am_bn {P : Prop} [Decidable P] (h : ¬ P) : am_b P = 0 := am_b0 h
def f_wb (I : am_I) (r : Nat) (a b : Int32) : Int32 := if (0 ≤ a ∧ a < 8) ∧ (0 ≤ b ∧ b < 8) then I (r + 3) (a * 8 + b).toNatClampNeg - 1 else -1
def f_side (I : am_I) (r : Nat) (p : Int32) : Int32 := if 0 ≤ p ∧ p < 8 then I (r + 4) p.toNatClampNeg else 0
def f_about (I : am_I) (r : Nat) (p : Int32) : Int32 := if 0 ≤ p ∧ p < 8 then I (r + 5) p.toNatClampNeg else 0
def T_RD_isWay : am_Sp := fun vs I L post => match vs with
  | [.ref r, .int w] => am_isR r ∧ post (some (.int (am_b (0 ≤ w ∧ w < I r 5)))) I L
  | _ => False
abbrev sp_RD_isWay : Nat → am_Sp := fun _ => am_no
theorem ok_RD_isWay : am_Ok am_SX sp_RD_isWay true k_RD_isWay 2 T_RD_isWay := by
  intro vs I L post h
  unfold T_RD_isWay at h
  split at h
  · rename_i r w
    obtain ⟨hr, h⟩ := h
    refine ⟨Nat.le_of_ble_eq_true rfl, fun G hG => ?_⟩
    rcases hr with rfl | rfl | rfl
    all_goals
      refine hG [] 200 0 _ _ _ _ ?_
      repeat' (first | with_reducible intro _ | refine And.intro ?_ ?_)
      all_goals first
        | exact am_bb
        | exact Or.inl rfl
        | exact Or.inr rfl
        | exact Or.inr (Or.inl rfl)
        | exact Or.inr (Or.inr rfl)
        | rfl
        | (show post _ _ _; grind [am_b])
  · exact h.elim
def T_RD_hasRoom : am_Sp := fun vs I L post => match vs with
  | [.ref r, .int d] => am_isR r ∧ post (some (.int (am_b (I r 5 < 12 ∧ (d = 0 ∨ f_bc (I r 6) < 6))))) I L
  | _ => False
def sp_RD_hasRoom : Nat → am_Sp := fun i => match i with
  | 37 => T_IN_bitCount
  | _ => am_no
theorem ok_RD_hasRoom : am_Ok am_SX sp_RD_hasRoom true k_RD_hasRoom 2 T_RD_hasRoom := by
  intro vs I L post h
  unfold T_RD_hasRoom at h
  split at h
  · rename_i r d
    obtain ⟨hr, h⟩ := h
    refine ⟨Nat.le_of_ble_eq_true rfl, fun G hG => ?_⟩
    rcases hr with rfl | rfl | rfl
    all_goals
      refine hG [] 200 0 _ _ _ _ ?_
      repeat' (first | with_reducible intro _ | refine And.intro ?_ ?_)
      all_goals first
        | exact am_bb
        | exact Or.inl rfl
        | exact Or.inr rfl
        | exact Or.inr (Or.inl rfl)
        | exact Or.inr (Or.inr rfl)
        | rfl
        | (show post _ _ _; grind [am_b])
  · exact h.elim
def T_RD_wayBetween : am_Sp := fun vs I L post => match vs with
  | [.ref r, .int a, .int b] => am_isR r ∧ post (some (.int (f_wb I r a b))) I L
  | _ => False
def sp_RD_wayBetween : Nat → am_Sp := fun i => match i with
  | 47 => T_RP_isPlace
  | _ => am_no
theorem ok_RD_wayBetween : am_Ok am_SX sp_RD_wayBetween false k_RD_wayBetween 3 T_RD_wayBetween := by
  intro vs I L post h
  unfold T_RD_wayBetween at h
  split at h
  · rename_i r a b
    obtain ⟨hr, h⟩ := h
    refine ⟨Nat.le_of_ble_eq_true rfl, fun G hG => ?_⟩
    rcases hr with rfl | rfl | rfl
    all_goals
      refine hG [] 200 0 _ _ _ _ ?_
      repeat' (first | with_reducible intro _ | refine And.intro ?_ ?_)
      all_goals first
        | exact am_bb
        | exact Or.inl rfl
        | exact Or.inr rfl
        | exact Or.inr (Or.inl rfl)
        | exact Or.inr (Or.inr rfl)
        | rfl
        | (refine am_inj8 ?_ ?_ <;> grind [am_b])
        | (show post _ _ _; unfold f_wb at h; grind [am_b])
  · exact h.elim
def T_RD_isJoined : am_Sp := fun vs I L post => match vs with
  | [.ref r, .int a, .int b] => am_isR r ∧ post (some (.int (am_b (¬ f_wb I r a b = -1)))) I L
  | _ => False
def sp_RD_isJoined : Nat → am_Sp := fun i => match i with
  | 43 => T_RD_wayBetween
  | _ => am_no
theorem ok_RD_isJoined : am_Ok am_SX sp_RD_isJoined true k_RD_isJoined 3 T_RD_isJoined := by
  intro vs I L post h
  unfold T_RD_isJoined at h
  split at h
  · rename_i r a b
    obtain ⟨hr, h⟩ := h
    refine ⟨Nat.le_of_ble_eq_true rfl, fun G hG => ?_⟩
    rcases hr with rfl | rfl | rfl
    all_goals
      refine hG [] 200 0 _ _ _ _ ?_
      repeat' (first | with_reducible intro _ | refine And.intro ?_ ?_)
      all_goals first
        | exact am_bb
        | exact Or.inl rfl
        | exact Or.inr rfl
        | exact Or.inr (Or.inl rfl)
        | exact Or.inr (Or.inr rfl)
        | rfl
        | (show post _ _ _; grind [am_b])
  · exact h.elim
def T_RD_lesserOf : am_Sp := fun vs I L post => match vs with
  | [.ref r, .int w] => am_isR r ∧ ((0 ≤ w ∧ w < I r 5 → vp_in w 12) ∧ post (some (.int (if 0 ≤ w ∧ w < I r 5 then I (r + 1) w.toNatClampNeg else 0))) I L)
  | _ => False
def sp_RD_lesserOf : Nat → am_Sp := fun i => match i with
  | 51 => T_RD_isWay
  | _ => am_no
theorem ok_RD_lesserOf : am_Ok am_SX sp_RD_lesserOf false k_RD_lesserOf 2 T_RD_lesserOf := by
  intro vs I L post h
  unfold T_RD_lesserOf at h
  split at h
  · rename_i r w
    obtain ⟨hr, hv, h⟩ := h
    refine ⟨Nat.le_of_ble_eq_true rfl, fun G hG => ?_⟩
    rcases hr with rfl | rfl | rfl
    all_goals
      refine hG [] 200 0 _ _ _ _ ?_
      repeat' (first | with_reducible intro _ | refine And.intro ?_ ?_)
      all_goals first
        | exact am_bb
        | exact Or.inl rfl
        | exact Or.inr rfl
        | exact Or.inr (Or.inl rfl)
        | exact Or.inr (Or.inr rfl)
        | rfl
        | (exact hv (by grind [am_b]))
        | (show post _ _ _; grind [am_b])
  · exact h.elim
def T_RD_greaterOf : am_Sp := fun vs I L post => match vs with
  | [.ref r, .int w] => am_isR r ∧ ((0 ≤ w ∧ w < I r 5 → vp_in w 12) ∧ post (some (.int (if 0 ≤ w ∧ w < I r 5 then I (r + 2) w.toNatClampNeg else 0))) I L)
  | _ => False
def sp_RD_greaterOf : Nat → am_Sp := fun i => match i with
  | 51 => T_RD_isWay
  | _ => am_no
theorem ok_RD_greaterOf : am_Ok am_SX sp_RD_greaterOf false k_RD_greaterOf 2 T_RD_greaterOf := by
  intro vs I L post h
  unfold T_RD_greaterOf at h
  split at h
  · rename_i r w
    obtain ⟨hr, hv, h⟩ := h
    refine ⟨Nat.le_of_ble_eq_true rfl, fun G hG => ?_⟩
    rcases hr with rfl | rfl | rfl
    all_goals
      refine hG [] 200 0 _ _ _ _ ?_
      repeat' (first | with_reducible intro _ | refine And.intro ?_ ?_)
      all_goals first
        | exact am_bb
        | exact Or.inl rfl
        | exact Or.inr rfl
        | exact Or.inr (Or.inl rfl)
        | exact Or.inr (Or.inr rfl)
        | rfl
        | (exact hv (by grind [am_b]))
        | (show post _ _ _; grind [am_b])
  · exact h.elim
def T_RD_hasStone : am_Sp := fun vs I L post => match vs with
  | [.ref r, .int p] => am_isR r ∧ post (some (.int (am_b (f_bit (I r 8) p = 1)))) I L
  | _ => False
def sp_RD_hasStone : Nat → am_Sp := fun i => match i with
  | 57 => T_RP_bitOf
  | _ => am_no
theorem ok_RD_hasStone : am_Ok am_SX sp_RD_hasStone true k_RD_hasStone 2 T_RD_hasStone := by
  intro vs I L post h
  unfold T_RD_hasStone at h
  split at h
  · rename_i r p
    obtain ⟨hr, h⟩ := h
    refine ⟨Nat.le_of_ble_eq_true rfl, fun G hG => ?_⟩
    rcases hr with rfl | rfl | rfl
    all_goals
      refine hG [] 200 0 _ _ _ _ ?_
      repeat' (first | with_reducible intro _ | refine And.intro ?_ ?_)
      all_goals first
        | exact am_bb
        | exact Or.inl rfl
        | exact Or.inr rfl
        | exact Or.inr (Or.inl rfl)
        | exact Or.inr (Or.inr rfl)
        | rfl
        | (show post _ _ _; grind [am_b])
  · exact h.elim
def T_RD_isSide : am_Sp := fun vs I L post => match vs with
  | [.ref r, .int p, .int f] => am_isR r ∧ post (some (.int (am_b ((0 ≤ p ∧ p < 8) ∧ I (r + 4) p.toNatClampNeg = f)))) I L
  | _ => False
def sp_RD_isSide : Nat → am_Sp := fun i => match i with
  | 47 => T_RP_isPlace
  | _ => am_no
theorem ok_RD_isSide : am_Ok am_SX sp_RD_isSide true k_RD_isSide 3 T_RD_isSide := by
  intro vs I L post h
  unfold T_RD_isSide at h
  split at h
  · rename_i r p f
    obtain ⟨hr, h⟩ := h
    refine ⟨Nat.le_of_ble_eq_true rfl, fun G hG => ?_⟩
    rcases hr with rfl | rfl | rfl
    all_goals
      refine hG [] 200 0 _ _ _ _ ?_
      repeat' (first | with_reducible intro _ | refine And.intro ?_ ?_)
      all_goals first
        | exact am_bb
        | exact Or.inl rfl
        | exact Or.inr rfl
        | exact Or.inr (Or.inl rfl)
        | exact Or.inr (Or.inr rfl)
        | rfl
        | (refine am_in8 ?_ ; grind [am_b])
        | (show post _ _ _; grind [am_b])
  · exact h.elim
def T_RD_sideOf : am_Sp := fun vs I L post => match vs with
  | [.ref r, .int p] => am_isR r ∧ post (some (.int (f_side I r p))) I L
  | _ => False
def sp_RD_sideOf : Nat → am_Sp := fun i => match i with
  | 47 => T_RP_isPlace
  | _ => am_no
theorem ok_RD_sideOf : am_Ok am_SX sp_RD_sideOf false k_RD_sideOf 2 T_RD_sideOf := by
  intro vs I L post h
  unfold T_RD_sideOf at h
  split at h
  · rename_i r p
    obtain ⟨hr, h⟩ := h
    refine ⟨Nat.le_of_ble_eq_true rfl, fun G hG => ?_⟩
    rcases hr with rfl | rfl | rfl
    all_goals
      refine hG [] 200 0 _ _ _ _ ?_
      repeat' (first | with_reducible intro _ | refine And.intro ?_ ?_)
      all_goals first
        | exact am_bb
        | exact Or.inl rfl
        | exact Or.inr rfl
        | exact Or.inr (Or.inl rfl)
        | exact Or.inr (Or.inr rfl)
        | rfl
        | (refine am_in8 ?_ ; grind [am_b])
        | (show post _ _ _; unfold f_side at h; grind [am_b])
  · exact h.elim
def T_RD_aboutOf : am_Sp := fun vs I L post => match vs with
  | [.ref r, .int p] => am_isR r ∧ post (some (.int (f_about I r p))) I L
  | _ => False
def sp_RD_aboutOf : Nat → am_Sp := fun i => match i with
  | 47 => T_RP_isPlace
  | _ => am_no
theorem ok_RD_aboutOf : am_Ok am_SX sp_RD_aboutOf false k_RD_aboutOf 2 T_RD_aboutOf := by
  intro vs I L post h
  unfold T_RD_aboutOf at h
  split at h
  · rename_i r p
    obtain ⟨hr, h⟩ := h
    refine ⟨Nat.le_of_ble_eq_true rfl, fun G hG => ?_⟩
    rcases hr with rfl | rfl | rfl
    all_goals
      refine hG [] 200 0 _ _ _ _ ?_
      repeat' (first | with_reducible intro _ | refine And.intro ?_ ?_)
      all_goals first
        | exact am_bb
        | exact Or.inl rfl
        | exact Or.inr rfl
        | exact Or.inr (Or.inl rfl)
        | exact Or.inr (Or.inr rfl)
        | rfl
        | (refine am_in8 ?_ ; grind [am_b])
        | (show post _ _ _; unfold f_about at h; grind [am_b])
  · exact h.elim
def T_RD_saysOpen : am_Sp := fun vs I L post => match vs with
  | [.ref r, .int p, .int f, .int s] => am_isR r ∧ post (some (.int (am_b ((f_bit s (f_about I r p) = 0) ↔ ((0 ≤ p ∧ p < 8) ∧ I (r + 4) p.toNatClampNeg = f))))) I L
  | _ => False
def sp_RD_saysOpen : Nat → am_Sp := fun i => match i with
  | 57 => T_RP_bitOf
  | 60 => T_RD_aboutOf
  | 63 => T_RD_isSide
  | _ => am_no
theorem ok_RD_saysOpen : am_Ok am_SX sp_RD_saysOpen true k_RD_saysOpen 5 T_RD_saysOpen := by
  intro vs I L post h
  unfold T_RD_saysOpen at h
  split at h
  · rename_i r p f s
    obtain ⟨hr, h⟩ := h
    refine ⟨Nat.le_of_ble_eq_true rfl, fun G hG => ?_⟩
    rcases hr with rfl | rfl | rfl
    all_goals
      refine hG [] 200 0 _ _ _ _ ?_
      repeat' (first | with_reducible intro _ | refine And.intro ?_ ?_)
      all_goals first
        | exact am_bb
        | exact Or.inl rfl
        | exact Or.inr rfl
        | exact Or.inr (Or.inl rfl)
        | exact Or.inr (Or.inr rfl)
        | rfl
        | (show post _ _ _; grind [am_b])
  · exact h.elim
def T_RD_setStone : am_Sp := fun vs I L post => match vs with
  | [.ref r, .int p, .int s, .int w] => am_isR r ∧ ((0 ≤ p ∧ p < 8) ∧ post none (am_ui (am_ui (am_ui I (r + 4) p.toNatClampNeg s) (r + 5) p.toNatClampNeg w) r 8 (I r 8 ||| ((1 : Int32) <<< (p &&& 31)))) L)
  | _ => False
def sp_RD_setStone : Nat → am_Sp := fun i => match i with
  | 47 => T_RP_isPlace
  | _ => am_no
theorem ok_RD_setStone : am_Ok am_SX sp_RD_setStone false k_RD_setStone 4 T_RD_setStone := by
  intro vs I L post h
  unfold T_RD_setStone at h
  split at h
  · rename_i r p s w
    obtain ⟨hr, hp, h⟩ := h
    refine ⟨Nat.le_of_ble_eq_true rfl, fun G hG => ?_⟩
    rcases hr with rfl | rfl | rfl
    all_goals
      refine hG [] 200 0 _ _ _ _ ?_
      repeat' (first | with_reducible intro _ | refine And.intro ?_ ?_)
      all_goals first
        | exact am_bb
        | exact Or.inl rfl
        | exact Or.inr rfl
        | exact Or.inr (Or.inl rfl)
        | exact Or.inr (Or.inr rfl)
        | rfl
        | (refine am_in8 ?_ ; grind [am_b])
        | (show post _ _ _; first | (exfalso; grind [am_b]) | exact am_pq h rfl (by simp [am_ui_r]) rfl)
  · exact h.elim
def T_RD_takeStone : am_Sp := fun vs I L post => match vs with
  | [.ref r, .int p] => am_isR r ∧ post none (am_ui I r 8 (I r 8 &&& (((1 : Int32) <<< (p &&& 31)) ^^^ (-1)))) L
  | _ => False
abbrev sp_RD_takeStone : Nat → am_Sp := fun _ => am_no
theorem ok_RD_takeStone : am_Ok am_SX sp_RD_takeStone false k_RD_takeStone 2 T_RD_takeStone := by
  intro vs I L post h
  unfold T_RD_takeStone at h
  split at h
  · rename_i r p
    obtain ⟨hr, h⟩ := h
    refine ⟨Nat.le_of_ble_eq_true rfl, fun G hG => ?_⟩
    rcases hr with rfl | rfl | rfl
    all_goals
      refine hG [] 200 0 _ _ _ _ ?_
      repeat' (first | with_reducible intro _ | refine And.intro ?_ ?_)
      all_goals first
        | exact am_bb
        | exact Or.inl rfl
        | exact Or.inr rfl
        | exact Or.inr (Or.inl rfl)
        | exact Or.inr (Or.inr rfl)
        | rfl
        | (show post _ _ _; exact h)
  · exact h.elim
def T_RD_pairOf : am_Sp := fun vs I L post => match vs with
  | [.ref r, .int w] => am_isR r ∧ ((0 ≤ w ∧ w < I r 5 → vp_in w 12) ∧ post (some (.long (if 0 ≤ w ∧ w < I r 5 then f_pair (I (r + 1) w.toNatClampNeg) (I (r + 2) w.toNatClampNeg) else 0))) I L)
  | _ => False
def sp_RD_pairOf : Nat → am_Sp := fun i => match i with
  | 51 => T_RD_isWay
  | 71 => T_NT_pair
  | _ => am_no
theorem ok_RD_pairOf : am_Ok am_SX sp_RD_pairOf false k_RD_pairOf 2 T_RD_pairOf := by
  intro vs I L post h
  unfold T_RD_pairOf at h
  split at h
  · rename_i r w
    obtain ⟨hr, hv, h⟩ := h
    refine ⟨Nat.le_of_ble_eq_true rfl, fun G hG => ?_⟩
    rcases hr with rfl | rfl | rfl
    all_goals
      refine hG [] 200 0 _ _ _ _ ?_
      repeat' (first | with_reducible intro _ | refine And.intro ?_ ?_)
      all_goals first
        | exact am_bb
        | exact Or.inl rfl
        | exact Or.inr rfl
        | exact Or.inr (Or.inl rfl)
        | exact Or.inr (Or.inr rfl)
        | rfl
        | (exact hv (by grind [am_b]))
        | (show post _ _ _; grind [am_b])
  · exact h.elim
