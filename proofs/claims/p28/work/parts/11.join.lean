/-! THE CLASS, roads: a way comes -/
def f_joinI (I : am_I) (r : Nat) (a b d : Int32) : am_I :=
  am_ui (if d = 0 then am_ui (am_ui (am_ui (am_ui I (r + 1) (I r 5).toNatClampNeg (if a < b then a else b)) (r + 2) (I r 5).toNatClampNeg (if a < b then b else a)) (r + 3) (a * 8 + b).toNatClampNeg (I r 5 + 1)) (r + 3) (b * 8 + a).toNatClampNeg (I r 5 + 1)
    else am_ui (am_ui (am_ui (am_ui (am_ui I (r + 1) (I r 5).toNatClampNeg (if a < b then a else b)) (r + 2) (I r 5).toNatClampNeg (if a < b then b else a)) (r + 3) (a * 8 + b).toNatClampNeg (I r 5 + 1)) (r + 3) (b * 8 + a).toNatClampNeg (I r 5 + 1)) r 6 (I r 6 ||| ((1 : Int32) <<< (I r 5 &&& 31)))) r 5 (I r 5 + 1)
def f_joinL (L : am_J) (r : Nat) (a b d : Int32) : am_J := if d = 0 then am_uj (am_uj L r 10 (L r 10 ||| f_pair a b)) r 11 (L r 11 ||| f_pair a b) else am_uj L r 10 (L r 10 ||| f_pair a b)
def T_RD_join : am_Sp := fun vs I L post => match vs with
  | [.ref r, .int a, .int b, .int d] => am_isR r ∧ ((0 ≤ a ∧ a < 8) ∧ ((0 ≤ b ∧ b < 8) ∧ ((0 ≤ I r 5 ∧ I r 5 < 12) ∧ post (some (.int (I r 5))) (f_joinI I r a b d) (f_joinL L r a b d))))
  | _ => False
def sp_RD_join : Nat → am_Sp := fun i => match i with
  | 47 => T_RP_isPlace
  | 71 => T_NT_pair
  | _ => am_no
set_option maxRecDepth 100000 in
set_option maxHeartbeats 4000000 in
theorem ok_RD_join : am_Ok am_SX sp_RD_join false k_RD_join 5 T_RD_join := by
  intro vs I L post h
  unfold T_RD_join at h
  split at h
  · rename_i r a b d
    obtain ⟨hr, ha, hb, hw, h⟩ := h
    refine ⟨Nat.le_of_ble_eq_true rfl, fun G hG => ?_⟩
    rcases hr with rfl | rfl | rfl
    all_goals
      refine hG [] 200 0 _ _ _ _ (am_f (am_bp ha) (am_f (am_bp hb) (am_t hw.2 ?_)))
      by_cases hab : a < b
      · refine am_nf hab (And.intro (am_in12 hw) (am_nf hab (And.intro (am_in12 hw) (And.intro (am_inj8 ha hb) (And.intro (am_inj8 hb ha) ?_)))))
        by_cases hd : d = 0
        · refine am_t hd ?_
          refine am_pq h ?_ ?_ ?_
          · simp [am_ui_r]
          · unfold f_joinI; simp only [hab, hd, if_true]; simp [am_ui_r]
          · unfold f_joinL; simp only [hd, if_true]; simp [am_uj_r]
        · refine am_f hd ?_
          refine am_pq h ?_ ?_ ?_
          · simp [am_ui_r]
          · unfold f_joinI; simp only [hab, hd, if_true, if_false]; simp [am_ui_r]
          · unfold f_joinL; simp only [hd, if_false]
      · refine am_nt hab (And.intro (am_in12 hw) (am_nt hab (And.intro (am_in12 hw) (And.intro (am_inj8 ha hb) (And.intro (am_inj8 hb ha) ?_)))))
        by_cases hd : d = 0
        · refine am_t hd ?_
          refine am_pq h ?_ ?_ ?_
          · simp [am_ui_r]
          · unfold f_joinI; simp only [hab, hd, if_true, if_false]; simp [am_ui_r]
          · unfold f_joinL; simp only [hd, if_true]; simp [am_uj_r]
        · refine am_f hd ?_
          refine am_pq h ?_ ?_ ?_
          · simp [am_ui_r]
          · unfold f_joinI; simp only [hab, hd, if_false]; simp [am_ui_r]
          · unfold f_joinL; simp only [hd, if_false]
  · exact h.elim
