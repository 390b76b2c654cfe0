/-! A PASS READ, in words; THE CLASS: the pass -/
def p_rep (f : Nat → (Nat → Nat) → Bool × Nat × (Nat → Nat)) (tn : Nat) (tt : Nat → Nat) : Nat → Nat → (Nat → Nat) → Bool × Nat × (Nat → Nat)
  | 0, s, D => f s D
  | m + 1, s, D => if (f s D).1 = true then (if p_c tn tt (f s D).2.1 = 44 then p_rep f tn tt m (p_at tn tt (f s D).2.1 + 1) (f s D).2.2 else (true, (f s D).2)) else (false, (f s D).2)
def p_all (tn : Nat) (tt : Nat → Nat) : Bool × Nat × (Nat → Nat) :=
  if (p_rep (p_way tn tt) tn tt 11 0 (g_0 0)).1 = true then
    (if p_c tn tt (p_rep (p_way tn tt) tn tt 11 0 (g_0 0)).2.1 = 59 then
      (if (p_rep (p_stone tn tt) tn tt 7 (p_at tn tt (p_rep (p_way tn tt) tn tt 11 0 (g_0 0)).2.1 + 1) (p_rep (p_way tn tt) tn tt 11 0 (g_0 0)).2.2).1 = true then
        (if p_c tn tt (p_rep (p_stone tn tt) tn tt 7 (p_at tn tt (p_rep (p_way tn tt) tn tt 11 0 (g_0 0)).2.1 + 1) (p_rep (p_way tn tt) tn tt 11 0 (g_0 0)).2.2).2.1 = -1 then p_rep (p_stone tn tt) tn tt 7 (p_at tn tt (p_rep (p_way tn tt) tn tt 11 0 (g_0 0)).2.1 + 1) (p_rep (p_way tn tt) tn tt 11 0 (g_0 0)).2.2
          else (false, p_at tn tt (p_rep (p_stone tn tt) tn tt 7 (p_at tn tt (p_rep (p_way tn tt) tn tt 11 0 (g_0 0)).2.1 + 1) (p_rep (p_way tn tt) tn tt 11 0 (g_0 0)).2.2).2.1, g_0 0))
        else p_rep (p_stone tn tt) tn tt 7 (p_at tn tt (p_rep (p_way tn tt) tn tt 11 0 (g_0 0)).2.1 + 1) (p_rep (p_way tn tt) tn tt 11 0 (g_0 0)).2.2)
      else if p_c tn tt (p_rep (p_way tn tt) tn tt 11 0 (g_0 0)).2.1 = -1 then p_rep (p_way tn tt) tn tt 11 0 (g_0 0) else (false, p_at tn tt (p_rep (p_way tn tt) tn tt 11 0 (g_0 0)).2.1, g_0 0))
  else p_rep (p_way tn tt) tn tt 11 0 (g_0 0)
theorem p_way_0 {tn : Nat} {tt : Nat → Nat} {s : Nat} {D : Nat → Nat} (h : (p_way tn tt s D).1 = true) : (p_way tn tt s D).2.2 0 = D 0 + 1 := by
  unfold p_way at h ⊢
  split
  · rename_i q; rw [if_pos q] at h; cases h
  · rename_i q; rw [if_neg q] at h
    split
    · rename_i q; rw [if_pos q] at h; cases h
    · rename_i q; rw [if_neg q] at h
      split
      · rename_i q; rw [if_pos q] at h
        split
        · rename_i q; rw [if_pos q] at h; cases h
        · simp [g_add]
      · simp [g_add]
def T_TP_takeWays : am_Sp := fun vs I L post => match vs with
  | [.ref o, .ref r] => o = 19 ∧ r = 13 ∧ ∃ tn tt s D, p_B tn tt ∧ TP I tn tt ∧ s ≤ tn ∧ I 19 2 = nI s ∧ PD I L D ∧ D 0 = 0 ∧ ∀ (v : Int32) (t : Nat) (I2 : am_I) (L2 : am_J), TP I2 tn tt → t ≤ tn → I2 19 2 = nI t → PF I I2 L L2 → p_R tn tt (p_rep (p_way tn tt) tn tt 11 s D) v t I2 L2 → post (some (.int v)) I2 L2
  | _ => False
def sp_TP_takeWays : Nat → am_Sp := fun i => match i with
  | 42 => T_TP_take
  | 46 => T_TP_takeWay
  | _ => am_no
set_option maxRecDepth 100000 in
set_option maxHeartbeats 4000000 in
theorem ok_TP_takeWays : am_Ok am_SX sp_TP_takeWays true k_TP_takeWays 3 T_TP_takeWays := by
  intro vs I L post h
  unfold T_TP_takeWays at h
  split at h
  · rename_i o r
    obtain ⟨rfl, rfl, tn, tt, s, D, hB, hT, hs, h2, hD, h0, h⟩ := h
    refine ⟨Nat.le_of_ble_eq_true rfl, fun G2 hG2 => ?_⟩
    have ht := hB.1
    have loop : ∀ m k t (D1 : Nat → Nat) (I1 : am_I) (L1 : am_J), m + k = 11 → D1 0 = k → t ≤ tn → TP I1 tn tt → I1 19 2 = nI t → PD I1 L1 D1 → PF I I1 L L1 → (p_rep (p_way tn tt) tn tt (m) (t) (D1)) = (p_rep (p_way tn tt) tn tt (11) (s) (D)) → G2 23 [some (.ref 19), some (.ref 13), some (.int (nI k))] [] I1 L1 := by
      intro m
      induction m with
      | zero =>
        intro k t D1 I1 L1 hk h0 htn hT1 h21 hD1 hf1 he
        have ek : k = 11 := by omega
        subst ek
        refine hG2 [] 100 23 _ _ _ _ (And.intro (rfl) (And.intro (rfl) (Exists.intro (tn) (Exists.intro (tt) (Exists.intro (t) (Exists.intro (D1) (And.intro (hB) (And.intro (hT1) (And.intro (htn) (And.intro (h21) (And.intro (hD1) (And.intro (by omega) (fun v t2 I2 L2 hT2 ht2 h22 hf2 hr => ?_)))))))))))))
        have he0 : (p_way tn tt t D1) = (p_rep (p_way tn tt) tn tt (11) (s) (D)) := he
        rw [he0] at hr
        rcases hr with ⟨q1, rfl, q3, q4⟩ | ⟨q1, rfl, q3⟩ | ⟨q1, rfl, q3, q4⟩
        · refine am_nt (by decide) (am_nt (by decide) (And.intro (Or.inr rfl) ?_))
          exact h 1 t2 I2 L2 hT2 ht2 h22 (PF_tr hf1 hf2) (Or.inl ⟨q1, rfl, q3, q4⟩)
        · exact am_nf rfl (And.intro (Or.inl rfl) (h 0 t2 I2 L2 hT2 ht2 h22 (PF_tr hf1 hf2) (Or.inr (Or.inl ⟨q1, rfl, q3⟩))))
        · refine am_nt (by decide) (am_nt (by decide) (And.intro (Or.inr rfl) ?_))
          exact h 1 t2 I2 L2 hT2 ht2 h22 (PF_tr hf1 hf2) (Or.inr (Or.inr ⟨q1, rfl, q3, q4⟩))
      | succ m ih =>
        intro k t D1 I1 L1 hk h0 htn hT1 h21 hD1 hf1 he
        refine hG2 [(2, [])] 100 23 _ _ _ _ (And.intro (rfl) (And.intro (rfl) (Exists.intro (tn) (Exists.intro (tt) (Exists.intro (t) (Exists.intro (D1) (And.intro (hB) (And.intro (hT1) (And.intro (htn) (And.intro (h21) (And.intro (hD1) (And.intro (by omega) (fun v t2 I2 L2 hT2 ht2 h22 hf2 hr => ?_)))))))))))))
        have he0 : (if (p_way tn tt t D1).1 = true then (if p_c tn tt (p_way tn tt t D1).2.1 = 44 then p_rep (p_way tn tt) tn tt m (p_at tn tt (p_way tn tt t D1).2.1 + 1) (p_way tn tt t D1).2.2 else (true, (p_way tn tt t D1).2)) else (false, (p_way tn tt t D1).2)) = (p_rep (p_way tn tt) tn tt (11) (s) (D)) := he
        have hkN : k + 1 < 12 := by omega
        -- behind a way or a stone there may be a further one
        have go : ∀ (I2 : am_I) (L2 : am_J) (t2 : Nat), TP I2 tn tt → t2 ≤ tn → I2 19 2 = nI t2 → (p_c tn tt t2 = 44 → G2 23 [some (.ref 19), some (.ref 13), some (.int (nI (k + 1)))] [] (am_ui I2 19 2 (nI (p_at tn tt t2 + 1))) L2) → (¬ p_c tn tt t2 = 44 → post (some (.int 1)) (am_ui I2 19 2 (nI (p_at tn tt t2))) L2) → G2 2 [some (.ref 19), some (.ref 13), some (.int (nI k + 1))] [] I2 L2 := by
          intro I2 L2 t2 hT2 ht2 h22 hy hn
          rw [nI_1]
          refine hG2 [(23, [])] 100 2 _ _ _ _ (am_nf (am_lt hkN rfl) (am_nf (show nI 0 < nI (k + 1) from nI_lt (by omega) (by omega)) (And.intro (rfl) (Exists.intro (tn) (Exists.intro (tt) (Exists.intro (t2) (And.intro (hB) (And.intro (hT2) (And.intro (ht2) (And.intro (h22) (And.intro (fun z => ?_) (fun z => ?_))))))))))))
          · exact am_nt (by decide) (hy z)
          · exact am_nf rfl (And.intro (Or.inr rfl) (hn z))
        rcases hr with ⟨q1, rfl, q3, q4⟩ | ⟨q1, rfl, q3⟩ | ⟨q1, rfl, q3, q4⟩
        · rw [if_pos q1] at he0
          have hcc := p_c_congr q4
          refine am_nt (by decide) (go I2 L2 t2 hT2 ht2 h22 (fun z => ?_) (fun z => ?_))
          · rw [if_pos (hcc ▸ z)] at he0
            refine ih (k + 1) (p_at tn tt t2 + 1) _ _ _ (by omega) (by rw [p_way_0 q1, h0]) (p_at_lt (by rw [z]; decide)) (TP_19 hT2) am_ui_e (PD_19 q3) (PF_tr hf1 (PF_tr hf2 PF_19)) ?_
            rw [q4]; exact he0
          · rw [if_neg (fun w => z (hcc ▸ w))] at he0
            refine h 1 _ _ _ (TP_19 hT2) (p_at_spec ht _ t2 rfl ht2).2.1 am_ui_e (PF_tr hf1 (PF_tr hf2 PF_19)) (Or.inl ?_)
            rw [← he0]
            exact ⟨rfl, rfl, PD_19 q3, (p_at_at ht ht2).trans q4⟩
        · rw [if_neg (by rw [q1]; decide)] at he0
          refine am_nf rfl (And.intro (Or.inl rfl) (h 0 t2 I2 L2 hT2 ht2 h22 (PF_tr hf1 hf2) (Or.inr (Or.inl ?_))))
          rw [← he0]
          exact ⟨rfl, rfl, q3⟩
        · rw [if_neg (by rw [q1]; decide)] at he0
          refine am_nt (by decide) (go I2 L2 t2 hT2 ht2 h22 (fun z => ?_) (fun z => ?_))
          · rw [q4] at z; exact absurd z (by decide)
          · refine h 1 _ _ _ (TP_19 hT2) (p_at_spec ht _ t2 rfl ht2).2.1 am_ui_e (PF_tr hf1 (PF_tr hf2 PF_19)) (Or.inr (Or.inr ?_))
            rw [← he0]
            exact ⟨rfl, rfl, (p_at_at ht ht2).trans q3, (p_c_at ht ht2).trans q4⟩
    refine hG2 [(23, [])] 100 0 _ _ _ _ (am_nf (by decide) (am_nt (by decide) ?_))
    show G2 23 [some (.ref 19), some (.ref 13), some (.int (nI 0))] [] I L
    exact loop 11 0 s D I L rfl h0 hs hT h2 hD PF_rfl rfl
  · exact h.elim
def T_TP_takeStones : am_Sp := fun vs I L post => match vs with
  | [.ref o, .ref r] => o = 19 ∧ r = 13 ∧ ∃ tn tt s D, p_B tn tt ∧ TP I tn tt ∧ s + 1 ≤ tn ∧ I 19 2 = nI s ∧ PD I L D ∧ ∀ (v : Int32) (t : Nat) (I2 : am_I) (L2 : am_J), TP I2 tn tt → t ≤ tn → I2 19 2 = nI t → PF I I2 L L2 → p_R tn tt (p_rep (p_stone tn tt) tn tt 7 (s + 1) D) v t I2 L2 → post (some (.int v)) I2 L2
  | _ => False
def sp_TP_takeStones : Nat → am_Sp := fun i => match i with
  | 42 => T_TP_take
  | 64 => T_TP_takeStone
  | _ => am_no
set_option maxRecDepth 100000 in
set_option maxHeartbeats 4000000 in
theorem ok_TP_takeStones : am_Ok am_SX sp_TP_takeStones true k_TP_takeStones 3 T_TP_takeStones := by
  intro vs I L post h
  unfold T_TP_takeStones at h
  split at h
  · rename_i o r
    obtain ⟨rfl, rfl, tn, tt, s, D, hB, hT, hs, h2, hD, h⟩ := h
    refine ⟨Nat.le_of_ble_eq_true rfl, fun G2 hG2 => ?_⟩
    have ht := hB.1
    have loop : ∀ m k t (D1 : Nat → Nat) (I1 : am_I) (L1 : am_J), m + k = 7 → t ≤ tn → TP I1 tn tt → I1 19 2 = nI t → PD I1 L1 D1 → PF I I1 L L1 → (p_rep (p_stone tn tt) tn tt (m) (t) (D1)) = (p_rep (p_stone tn tt) tn tt (7) ((s + 1)) (D)) → G2 33 [some (.ref 19), some (.ref 13), some (.int (nI k))] [] I1 L1 := by
      intro m
      induction m with
      | zero =>
        intro k t D1 I1 L1 hk htn hT1 h21 hD1 hf1 he
        have ek : k = 7 := by omega
        subst ek
        refine hG2 [] 100 33 _ _ _ _ (And.intro (rfl) (And.intro (rfl) (Exists.intro (tn) (Exists.intro (tt) (Exists.intro (t) (Exists.intro (D1) (And.intro (hB) (And.intro (hT1) (And.intro (htn) (And.intro (h21) (And.intro (hD1) (fun v t2 I2 L2 hT2 ht2 h22 hf2 hr => ?_))))))))))))
        have he0 : (p_stone tn tt t D1) = (p_rep (p_stone tn tt) tn tt (7) ((s + 1)) (D)) := he
        rw [he0] at hr
        rcases hr with ⟨q1, rfl, q3, q4⟩ | ⟨q1, rfl, q3⟩ | ⟨q1, rfl, q3, q4⟩
        · refine am_nt (by decide) (am_nt (by decide) (And.intro (Or.inr rfl) ?_))
          exact h 1 t2 I2 L2 hT2 ht2 h22 (PF_tr hf1 hf2) (Or.inl ⟨q1, rfl, q3, q4⟩)
        · exact am_nf rfl (And.intro (Or.inl rfl) (h 0 t2 I2 L2 hT2 ht2 h22 (PF_tr hf1 hf2) (Or.inr (Or.inl ⟨q1, rfl, q3⟩))))
        · refine am_nt (by decide) (am_nt (by decide) (And.intro (Or.inr rfl) ?_))
          exact h 1 t2 I2 L2 hT2 ht2 h22 (PF_tr hf1 hf2) (Or.inr (Or.inr ⟨q1, rfl, q3, q4⟩))
      | succ m ih =>
        intro k t D1 I1 L1 hk htn hT1 h21 hD1 hf1 he
        refine hG2 [(12, [])] 100 33 _ _ _ _ (And.intro (rfl) (And.intro (rfl) (Exists.intro (tn) (Exists.intro (tt) (Exists.intro (t) (Exists.intro (D1) (And.intro (hB) (And.intro (hT1) (And.intro (htn) (And.intro (h21) (And.intro (hD1) (fun v t2 I2 L2 hT2 ht2 h22 hf2 hr => ?_))))))))))))
        have he0 : (if (p_stone tn tt t D1).1 = true then (if p_c tn tt (p_stone tn tt t D1).2.1 = 44 then p_rep (p_stone tn tt) tn tt m (p_at tn tt (p_stone tn tt t D1).2.1 + 1) (p_stone tn tt t D1).2.2 else (true, (p_stone tn tt t D1).2)) else (false, (p_stone tn tt t D1).2)) = (p_rep (p_stone tn tt) tn tt (7) ((s + 1)) (D)) := he
        have hkN : k + 1 < 8 := by omega
        -- behind a way or a stone there may be a further one
        have go : ∀ (I2 : am_I) (L2 : am_J) (t2 : Nat), TP I2 tn tt → t2 ≤ tn → I2 19 2 = nI t2 → (p_c tn tt t2 = 44 → G2 33 [some (.ref 19), some (.ref 13), some (.int (nI (k + 1)))] [] (am_ui I2 19 2 (nI (p_at tn tt t2 + 1))) L2) → (¬ p_c tn tt t2 = 44 → post (some (.int 1)) (am_ui I2 19 2 (nI (p_at tn tt t2))) L2) → G2 12 [some (.ref 19), some (.ref 13), some (.int (nI k + 1))] [] I2 L2 := by
          intro I2 L2 t2 hT2 ht2 h22 hy hn
          rw [nI_1]
          refine hG2 [(33, [])] 100 12 _ _ _ _ (am_nf (am_lt hkN rfl) (am_nf (show nI 0 < nI (k + 1) from nI_lt (by omega) (by omega)) (And.intro (rfl) (Exists.intro (tn) (Exists.intro (tt) (Exists.intro (t2) (And.intro (hB) (And.intro (hT2) (And.intro (ht2) (And.intro (h22) (And.intro (fun z => ?_) (fun z => ?_))))))))))))
          · exact am_nt (by decide) (hy z)
          · exact am_nf rfl (And.intro (Or.inr rfl) (hn z))
        rcases hr with ⟨q1, rfl, q3, q4⟩ | ⟨q1, rfl, q3⟩ | ⟨q1, rfl, q3, q4⟩
        · rw [if_pos q1] at he0
          have hcc := p_c_congr q4
          refine am_nt (by decide) (go I2 L2 t2 hT2 ht2 h22 (fun z => ?_) (fun z => ?_))
          · rw [if_pos (hcc ▸ z)] at he0
            refine ih (k + 1) (p_at tn tt t2 + 1) _ _ _ (by omega) (p_at_lt (by rw [z]; decide)) (TP_19 hT2) am_ui_e (PD_19 q3) (PF_tr hf1 (PF_tr hf2 PF_19)) ?_
            rw [q4]; exact he0
          · rw [if_neg (fun w => z (hcc ▸ w))] at he0
            refine h 1 _ _ _ (TP_19 hT2) (p_at_spec ht _ t2 rfl ht2).2.1 am_ui_e (PF_tr hf1 (PF_tr hf2 PF_19)) (Or.inl ?_)
            rw [← he0]
            exact ⟨rfl, rfl, PD_19 q3, (p_at_at ht ht2).trans q4⟩
        · rw [if_neg (by rw [q1]; decide)] at he0
          refine am_nf rfl (And.intro (Or.inl rfl) (h 0 t2 I2 L2 hT2 ht2 h22 (PF_tr hf1 hf2) (Or.inr (Or.inl ?_))))
          rw [← he0]
          exact ⟨rfl, rfl, q3⟩
        · rw [if_neg (by rw [q1]; decide)] at he0
          refine am_nt (by decide) (go I2 L2 t2 hT2 ht2 h22 (fun z => ?_) (fun z => ?_))
          · rw [q4] at z; exact absurd z (by decide)
          · refine h 1 _ _ _ (TP_19 hT2) (p_at_spec ht _ t2 rfl ht2).2.1 am_ui_e (PF_tr hf1 (PF_tr hf2 PF_19)) (Or.inr (Or.inr ?_))
            rw [← he0]
            exact ⟨rfl, rfl, (p_at_at ht ht2).trans q3, (p_c_at ht ht2).trans q4⟩
    refine hG2 [(33, [])] 100 0 _ _ _ _ (am_nf (by decide) (am_nt (by decide) ?_))
    show G2 33 [some (.ref 19), some (.ref 13), some (.int (nI 0))] [] (am_ui I 19 2 (I 19 2 + 1)) L
    rw [h2, nI_1]
    exact loop 7 0 (s + 1) D _ L rfl hs (TP_19 hT) am_ui_e (PD_19 hD) PF_19 rfl
  · exact h.elim
