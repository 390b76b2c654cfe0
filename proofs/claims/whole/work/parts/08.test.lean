def am_b (P : Prop) [Decidable P] : Int32 := if P then 1 else 0
def am_isR (r : Nat) : Prop := r = 1 ∨ (r = 7 ∨ r = 13)
def am_no : am_Sp := fun _ _ _ _ => False
def T_RD_isWay : am_Sp := fun vs I L post => match vs with
  | [.ref r, .int w] => am_isR r ∧ post (some (.int (am_b (0 ≤ w ∧ w < I r 5)))) I L
  | _ => False
def T_RD_lesserOf : am_Sp := fun vs I L post => match vs with
  | [.ref r, .int w] => am_isR r ∧ ((0 ≤ w ∧ w < I r 5 → vp_in w 12) ∧ post (some (.int (if 0 ≤ w ∧ w < I r 5 then I (r + 1) w.toNatClampNeg else 0))) I L)
  | _ => False
def sp_RD_lesserOf : Nat → am_Sp := fun i => match i with
  | 51 => T_RD_isWay
  | _ => am_no
theorem am_b1 {P : Prop} [Decidable P] (h : P) : am_b P = 1 := if_pos h
theorem am_b0 {P : Prop} [Decidable P] (h : ¬ P) : am_b P = 0 := if_neg h
theorem am_bz {P : Prop} [Decidable P] : am_b P = 0 ↔ ¬ P := by
  by_cases h : P
  · rw [am_b1 h]; exact ⟨fun q => absurd q (by decide), fun q => absurd h q⟩
  · rw [am_b0 h]; exact ⟨fun _ => h, fun _ => rfl⟩
theorem ok_RD_isWay : am_Ok am_SX (fun _ => am_no) true k_RD_isWay 2 T_RD_isWay := by
  intro vs I L post h
  unfold T_RD_isWay at h
  split at h
  · rename_i r w
    obtain ⟨hr, h⟩ := h
    refine ⟨Nat.le_of_ble_eq_true rfl, fun G hG => ?_⟩
    rcases hr with rfl | rfl | rfl
    all_goals
      refine hG [] 20 0 _ _ _ _ ?_
      repeat' (first | with_reducible intro _ | refine And.intro ?_ ?_)
      all_goals first
        | exact Or.inl rfl
        | exact Or.inr rfl
        | (show post _ _ _; grind [am_b])
  · exact h.elim
theorem ok_RD_lesserOf : am_Ok am_SX sp_RD_lesserOf false k_RD_lesserOf 2 T_RD_lesserOf := by
  intro vs I L post h
  unfold T_RD_lesserOf at h
  split at h
  · rename_i r w
    obtain ⟨hr, hv, h⟩ := h
    refine ⟨Nat.le_of_ble_eq_true rfl, fun G hG => ?_⟩
    rcases hr with rfl | rfl | rfl
    all_goals
      refine hG [] 20 0 _ _ _ _ ?_
      repeat' (first | with_reducible intro _ | refine And.intro ?_ ?_)
    all_goals first
        | exact Or.inl rfl
        | exact Or.inr (Or.inl rfl)
        | exact Or.inr (Or.inr rfl)
        | rfl
        | skip
    all_goals first
      | (show post _ _ _; grind [am_b])
      | (refine hv ?_; grind [am_b])
  · exact h.elim
theorem met_RD_isWay (l : Launch) : am_Met l am_SX ⟨"ReadPass$Road", "isWay", "(I)Z"⟩ prog_5_method_2_code 2 (some .boolean) { frames := 0, cells := 0, slots := 0, locals := 0 } T_RD_isWay := am_MetOf [] ok_RD_isWay (by decide +kernel) (by decide +kernel) (by decide +kernel) (by decide +kernel) (fun k hk => by cases hk)
