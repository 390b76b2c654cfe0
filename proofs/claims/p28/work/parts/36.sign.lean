/-! A PASS READ, in words; THE CLASS: signs -/
def p_ah (tn : Nat) (tt : Nat → Nat) : Nat → Nat → Nat
  | 0, s => s
  | n + 1, s => if s < tn ∧ tt s = 32 then p_ah tn tt n (s + 1) else s
/-- where the next sign behind blanks is -/
def p_at (tn : Nat) (tt : Nat → Nat) (s : Nat) : Nat := p_ah tn tt 101 s
def p_c (tn : Nat) (tt : Nat → Nat) (s : Nat) : Int32 := if p_at tn tt s < tn then nI (tt (p_at tn tt s)) else -1
theorem p_ah_more (tn : Nat) (tt : Nat → Nat) : ∀ n s, tn ≤ s + n → p_ah tn tt (n + 1) s = p_ah tn tt n s := by
  intro n
  induction n with
  | zero =>
    intro s h
    simp only [p_ah]
    rw [if_neg (by omega)]
  | succ n ih =>
    intro s h
    show (if s < tn ∧ tt s = 32 then p_ah tn tt (n + 1) (s + 1) else s) = (if s < tn ∧ tt s = 32 then p_ah tn tt n (s + 1) else s)
    rw [ih (s + 1) (by omega)]
theorem p_at_step {tn : Nat} {tt : Nat → Nat} {s : Nat} (ht : tn ≤ 100) (h : s < tn ∧ tt s = 32) : p_at tn tt (s + 1) = p_at tn tt s := by
  unfold p_at
  rw [← p_ah_more tn tt 101 s (by omega)]
  show _ = if s < tn ∧ tt s = 32 then p_ah tn tt 101 (s + 1) else s
  rw [if_pos h]
theorem p_at_id {tn : Nat} {tt : Nat → Nat} {s : Nat} (h : ¬ (s < tn ∧ tt s = 32)) : p_at tn tt s = s := by
  unfold p_at
  show (if s < tn ∧ tt s = 32 then p_ah tn tt 100 (s + 1) else s) = s
  rw [if_neg h]
theorem p_at_spec {tn : Nat} {tt : Nat → Nat} (ht : tn ≤ 100) : ∀ d s, tn - s = d → s ≤ tn → s ≤ p_at tn tt s ∧ p_at tn tt s ≤ tn ∧ ¬ (p_at tn tt s < tn ∧ tt (p_at tn tt s) = 32) := by
  intro d
  induction d with
  | zero =>
    intro s hd hs
    rw [p_at_id (fun q => by omega)]
    exact ⟨Nat.le_refl _, hs, fun q => by omega⟩
  | succ d ih =>
    intro s hd hs
    by_cases h : s < tn ∧ tt s = 32
    · rw [← p_at_step ht h]
      obtain ⟨a, b, c⟩ := ih (s + 1) (by omega) (by omega)
      exact ⟨by omega, b, c⟩
    · rw [p_at_id h]
      exact ⟨Nat.le_refl _, hs, h⟩
theorem p_at_at {tn : Nat} {tt : Nat → Nat} {s : Nat} (ht : tn ≤ 100) (hs : s ≤ tn) : p_at tn tt (p_at tn tt s) = p_at tn tt s := p_at_id (p_at_spec ht _ s rfl hs).2.2
theorem p_c_at {tn : Nat} {tt : Nat → Nat} {s : Nat} (ht : tn ≤ 100) (hs : s ≤ tn) : p_c tn tt (p_at tn tt s) = p_c tn tt s := by
  unfold p_c
  rw [p_at_at ht hs]
theorem p_c_congr {tn : Nat} {tt : Nat → Nat} {s t : Nat} (h : p_at tn tt s = p_at tn tt t) : p_c tn tt s = p_c tn tt t := by
  unfold p_c
  rw [h]
theorem p_at_lt {tn : Nat} {tt : Nat → Nat} {s : Nat} (h : ¬ p_c tn tt s = -1) : p_at tn tt s < tn := by
  unfold p_c at h
  split at h
  · assumption
  · exact absurd rfl h
def p_B (tn : Nat) (tt : Nat → Nat) : Prop := tn ≤ 100 ∧ ∀ j, j < tn → 32 ≤ tt j ∧ tt j ≤ 126
theorem p_c_rng {tn : Nat} {tt : Nat → Nat} (h : p_B tn tt) (s : Nat) : p_c tn tt s = -1 ∨ ∃ c, c ≤ 126 ∧ p_c tn tt s = nI c := by
  unfold p_c
  split
  · rename_i q
    exact Or.inr ⟨_, (h.2 _ q).2, rfl⟩
  · exact Or.inl rfl
def T_TP_sign : am_Sp := fun vs I L post => match vs with
  | [.ref o] => o = 19 ∧ ∃ tn tt s, p_B tn tt ∧ TP I tn tt ∧ s ≤ tn ∧ I 19 2 = nI s ∧ post (some (.int (p_c tn tt s))) (am_ui I 19 2 (nI (p_at tn tt s))) L
  | _ => False
abbrev sp_TP_sign : Nat → am_Sp := fun _ => am_no
set_option maxRecDepth 100000 in
set_option maxHeartbeats 4000000 in
theorem ok_TP_sign : am_Ok am_SX sp_TP_sign false k_TP_sign 1 T_TP_sign := by
  intro vs I L post h
  unfold T_TP_sign at h
  split at h
  · rename_i o
    obtain ⟨rfl, tn, tt, s, hB, hT, hs, h2, h⟩ := h
    refine ⟨Nat.le_of_ble_eq_true rfl, fun G2 hG2 => ?_⟩
    have ht := hB.1
    have loop : ∀ d t, tn - t = d → t ≤ tn → p_at tn tt t = p_at tn tt s → G2 0 [some (.ref 19)] [] (am_ui I 19 2 (nI t)) L := by
      intro d
      induction d with
      | zero =>
        intro t hd hle he
        have e : t = tn := by omega
        subst e
        have e1 : am_ui I 19 2 (nI t) 19 1 = nI t := (am_uk (by omega)).trans hT.1
        have e3 : p_at t tt s = t := by rw [← he]; exact p_at_id (fun q => by omega)
        have e4 : p_c t tt s = -1 := by unfold p_c; rw [e3, if_neg (by omega)]
        rw [e3, e4] at h
        refine hG2 [(38, [])] 100 0 _ _ _ _ ?_
        show (¬ am_ui I 19 2 (nI t) 19 2 < am_ui I 19 2 (nI t) 19 1 → _) ∧ (am_ui I 19 2 (nI t) 19 2 < am_ui I 19 2 (nI t) 19 1 → _)
        rw [am_ui_e, e1]
        refine am_nt (nI_nlt (Nat.le_refl t) (by omega)) ?_
        refine hG2 [] 100 38 _ _ _ _ ?_
        show (¬ am_ui I 19 2 (nI t) 19 2 < am_ui I 19 2 (nI t) 19 1 → _) ∧ (am_ui I 19 2 (nI t) 19 2 < am_ui I 19 2 (nI t) 19 1 → _)
        rw [am_ui_e, e1]
        exact am_nt (nI_nlt (Nat.le_refl t) (by omega)) h
      | succ d ih =>
        intro t hd hle he
        have hlt : t < tn := by omega
        have e1 : am_ui I 19 2 (nI t) 19 1 = nI tn := (am_uk (by omega)).trans hT.1
        have e20 : am_ui I 19 2 (nI t) 20 = I 20 := am_ui_o (by omega)
        have hbt := hB.2 t hlt
        refine hG2 [(0, []), (38, [])] 100 0 _ _ _ _ ?_
        show (¬ am_ui I 19 2 (nI t) 19 2 < am_ui I 19 2 (nI t) 19 1 → _) ∧ (am_ui I 19 2 (nI t) 19 2 < am_ui I 19 2 (nI t) 19 1 → vp_in (am_ui I 19 2 (nI t) 19 2) 100 ∧ ((¬ am_ui I 19 2 (nI t) 20 (am_ui I 19 2 (nI t) 19 2).toNatClampNeg = 32 → _) ∧ (am_ui I 19 2 (nI t) 20 (am_ui I 19 2 (nI t) 19 2).toNatClampNeg = 32 → G2 0 [some (.ref 19)] [] (am_ui (am_ui I 19 2 (nI t)) 19 2 (am_ui I 19 2 (nI t) 19 2 + 1)) L)))
        rw [am_ui_e, e1, e20, nI_clamp (by omega), hT.2 t hlt, nI_1]
        refine am_nf (nI_lt hlt (by omega)) (And.intro (am_vin (by omega) rfl) ?_)
        by_cases hb : tt t = 32
        · refine am_nf (by rw [hb]; rfl) ?_
          have e5 : am_ui (am_ui I 19 2 (nI t)) 19 2 (nI (t + 1)) = am_ui I 19 2 (nI (t + 1)) := by
            funext a b
            simp only [am_ui_r]
            split <;> rfl
          rw [e5]
          exact ih (t + 1) (by omega) (by omega) (by rw [p_at_step ht ⟨hlt, hb⟩]; exact he)
        · have e3 : p_at tn tt s = t := by rw [← he]; exact p_at_id (fun q => hb q.2)
          have e4 : p_c tn tt s = nI (tt t) := by unfold p_c; rw [e3, if_pos hlt]
          rw [e3, e4] at h
          refine am_nt (fun z => hb ?_) ?_
          · have z : nI (tt t) = nI 32 := z
            exact (nI_eq (by omega) (by omega)).mp z
          · refine hG2 [] 100 38 _ _ _ _ ?_
            show (¬ am_ui I 19 2 (nI t) 19 2 < am_ui I 19 2 (nI t) 19 1 → _) ∧ (am_ui I 19 2 (nI t) 19 2 < am_ui I 19 2 (nI t) 19 1 → vp_in (am_ui I 19 2 (nI t) 19 2) 100 ∧ post (some (.int (am_ui I 19 2 (nI t) 20 (am_ui I 19 2 (nI t) 19 2).toNatClampNeg))) (am_ui I 19 2 (nI t)) L)
            rw [am_ui_e, e1, e20, nI_clamp (by omega), hT.2 t hlt]
            exact am_nf (nI_lt hlt (by omega)) (And.intro (am_vin (by omega) rfl) h)
    have := loop (tn - s) s rfl hs rfl
    rw [am_ui_id h2] at this
    exact this
  · exact h.elim
def p_dg (tn : Nat) (tt : Nat → Nat) (s : Nat) : Int32 := if 0 ≤ p_c tn tt s - 48 ∧ p_c tn tt s - 48 < 8 then p_c tn tt s - 48 else -1
def T_TP_digit : am_Sp := fun vs I L post => match vs with
  | [.ref o] => o = 19 ∧ ∃ tn tt s, p_B tn tt ∧ TP I tn tt ∧ s ≤ tn ∧ I 19 2 = nI s ∧ post (some (.int (p_dg tn tt s))) (am_ui I 19 2 (nI (p_at tn tt s))) L
  | _ => False
def sp_TP_digit : Nat → am_Sp := fun i => match i with
  | 35 => T_TP_sign
  | 78 => T_RP_isPlace
  | _ => am_no
set_option maxRecDepth 100000 in
theorem ok_TP_digit : am_Ok am_SX sp_TP_digit false k_TP_digit 2 T_TP_digit := by
  intro vs I L post h
  unfold T_TP_digit at h
  split at h
  · rename_i o
    obtain ⟨rfl, tn, tt, s, hB, hT, hs, h2, h⟩ := h
    refine ⟨Nat.le_of_ble_eq_true rfl, fun G2 hG2 => ?_⟩
    unfold p_dg at h
    refine hG2 [] 100 0 _ _ _ _ (And.intro (rfl) (Exists.intro (tn) (Exists.intro (tt) (Exists.intro (s) (And.intro (hB) (And.intro (hT) (And.intro (hs) (And.intro (h2) (?_)))))))))
    by_cases hd : 0 ≤ p_c tn tt s - 48 ∧ p_c tn tt s - 48 < 8
    · rw [if_pos hd] at h
      exact am_f (am_bp hd) h
    · rw [if_neg hd] at h
      exact am_t (am_bn hd) h
  · exact h.elim
def T_TP_take : am_Sp := fun vs I L post => match vs with
  | [.ref o, .int x] => o = 19 ∧ ∃ tn tt s, p_B tn tt ∧ TP I tn tt ∧ s ≤ tn ∧ I 19 2 = nI s ∧ (p_c tn tt s = x → post (some (.int 1)) (am_ui I 19 2 (nI (p_at tn tt s + 1))) L) ∧ (¬ p_c tn tt s = x → post (some (.int 0)) (am_ui I 19 2 (nI (p_at tn tt s))) L)
  | _ => False
def sp_TP_take : Nat → am_Sp := fun i => match i with
  | 35 => T_TP_sign
  | _ => am_no
set_option maxRecDepth 100000 in
theorem ok_TP_take : am_Ok am_SX sp_TP_take true k_TP_take 3 T_TP_take := by
  intro vs I L post h
  unfold T_TP_take at h
  split at h
  · rename_i o x
    obtain ⟨rfl, tn, tt, s, hB, hT, hs, h2, ha, hb⟩ := h
    refine ⟨Nat.le_of_ble_eq_true rfl, fun G2 hG2 => ?_⟩
    refine hG2 [(14, [])] 100 0 _ _ _ _ (And.intro (rfl) (Exists.intro (tn) (Exists.intro (tt) (Exists.intro (s) (And.intro (hB) (And.intro (hT) (And.intro (hs) (And.intro (h2) (?_)))))))))
    by_cases hd : p_c tn tt s = x
    · refine am_nf hd ?_
      refine hG2 [] 100 14 _ _ _ _ (am_f (by decide) (And.intro (Or.inr rfl) ?_))
      refine am_pq (ha hd) rfl ?_ rfl
      rw [am_ui_e, nI_1]
      funext a b
      simp only [am_ui_r]
      split <;> rfl
    · refine am_nt hd ?_
      exact hG2 [] 100 14 _ _ _ _ (am_t rfl (And.intro (Or.inl rfl) (hb hd)))
  · exact h.elim
