/-! THE REFERENCE: signs, pairs read -/
def PM (I : am_I) (D : Nat → Nat) : Prop := WG D ∧ D 43 = 0 ∧ D 44 = 0 ∧ I 0 7 = nI (D 0) ∧ I 0 8 = nI (D 25) ∧ I 0 11 = nI (D 26) ∧ (∀ k, k < D 0 → I 3 k = nI (D (1 + k)) ∧ I 4 k = nI (D (13 + k))) ∧ ∀ p, p < 8 → (D 26).testBit p = true → I 5 p = nI (D (27 + p)) ∧ I 6 p = nI (D (35 + p))
def MPF (I I2 : am_I) : Prop := (∀ a : Nat, a ≠ 0 → a ≠ 3 → a ≠ 4 → a ≠ 5 → a ≠ 6 → I2 a = I a) ∧ ∀ k : Nat, k ≠ 4 → k ≠ 7 → k ≠ 8 → k ≠ 11 → I2 0 k = I 0 k
theorem MPF_rfl {I : am_I} : MPF I I := ⟨fun _ _ _ _ _ _ => rfl, fun _ _ _ _ _ => rfl⟩
theorem MPF_tr {I I2 I3 : am_I} (h : MPF I I2) (h2 : MPF I2 I3) : MPF I I3 := ⟨fun a x y z u v => (h2.1 a x y z u v).trans (h.1 a x y z u v), fun k x y z u => (h2.2 k x y z u).trans (h.2 k x y z u)⟩
theorem MPF_4 {I : am_I} {v : Int32} : MPF I (am_ui I 0 4 v) := ⟨fun a h _ _ _ _ => am_ui_o h, fun k h _ _ _ => am_uk h⟩
theorem MT_PF {I I2 : am_I} {tn : Nat} {tt : Nat → Nat} (h : MT I tn tt) (hf : MPF I I2) : MT I2 tn tt := ⟨by rw [hf.2 3 (by omega) (by omega) (by omega) (by omega)]; exact h.1, fun j hj => by rw [hf.1 2 (by omega) (by omega) (by omega) (by omega) (by omega)]; exact h.2 j hj⟩
theorem PM_fr {I I2 : am_I} {D : Nat → Nat} (h : PM I D) (h0 : ∀ k : Nat, k ≠ 4 → I2 0 k = I 0 k) (ha : ∀ a : Nat, 3 ≤ a → a ≤ 6 → I2 a = I a) : PM I2 D := by
  obtain ⟨w, a, b, c7, c8, c11, cw, cs⟩ := h
  refine ⟨w, a, b, by rw [h0 7 (by omega)]; exact c7, by rw [h0 8 (by omega)]; exact c8, by rw [h0 11 (by omega)]; exact c11, fun k hk => ?_, fun p hp hb => ?_⟩
  · rw [ha 3 (by omega) (by omega), ha 4 (by omega) (by omega)]; exact cw k hk
  · rw [ha 5 (by omega) (by omega), ha 6 (by omega) (by omega)]; exact cs p hp hb
theorem PM_4 {I : am_I} {D : Nat → Nat} {v : Int32} (h : PM I D) : PM (am_ui I 0 4 v) D := PM_fr h (fun k hk => am_uk hk) (fun a h1 h2 => am_ui_o (by omega))
def T_MD_ahead : am_Sp := fun vs I L post => match vs with
  | [.ref o] => o = 0 ∧ ∃ tn tt s, p_B tn tt ∧ MT I tn tt ∧ s ≤ tn ∧ I 0 4 = nI s ∧ post (some (.int (p_c tn tt s))) (am_ui I 0 4 (nI (p_at tn tt s))) L
  | _ => False
abbrev sp_MD_ahead : Nat → am_Sp := fun _ => am_no
set_option maxRecDepth 100000 in
set_option maxHeartbeats 4000000 in
theorem ok_MD_ahead : am_Ok am_SM sp_MD_ahead false k_MD_ahead 1 T_MD_ahead := by
  intro vs I L post h
  unfold T_MD_ahead at h
  split at h
  · rename_i o
    obtain ⟨rfl, tn, tt, s, hB, hT, hs, h2, h⟩ := h
    refine ⟨Nat.le_of_ble_eq_true rfl, fun G2 hG2 => ?_⟩
    have ht := hB.1
    have loop : ∀ d t, tn - t = d → t ≤ tn → p_at tn tt t = p_at tn tt s → G2 0 [some (.ref 0)] [] (am_ui I 0 4 (nI t)) L := by
      intro d
      induction d with
      | zero =>
        intro t hd hle he
        have e : t = tn := by omega
        subst e
        have e1 : am_ui I 0 4 (nI t) 0 3 = nI t := (am_uk (by omega)).trans hT.1
        have e3 : p_at t tt s = t := by rw [← he]; exact p_at_id (fun q => by omega)
        have e4 : p_c t tt s = -1 := by unfold p_c; rw [e3, if_neg (by omega)]
        rw [e3, e4] at h
        refine hG2 [(38, [])] 100 0 _ _ _ _ ?_
        show (¬ am_ui I 0 4 (nI t) 0 4 < am_ui I 0 4 (nI t) 0 3 → _) ∧ (am_ui I 0 4 (nI t) 0 4 < am_ui I 0 4 (nI t) 0 3 → _)
        rw [am_ui_e, e1]
        refine am_nt (nI_nlt (Nat.le_refl t) (by omega)) ?_
        refine hG2 [] 100 38 _ _ _ _ ?_
        show (¬ am_ui I 0 4 (nI t) 0 4 < am_ui I 0 4 (nI t) 0 3 → _) ∧ (am_ui I 0 4 (nI t) 0 4 < am_ui I 0 4 (nI t) 0 3 → _)
        rw [am_ui_e, e1]
        exact am_nt (nI_nlt (Nat.le_refl t) (by omega)) h
      | succ d ih =>
        intro t hd hle he
        have hlt : t < tn := by omega
        have e1 : am_ui I 0 4 (nI t) 0 3 = nI tn := (am_uk (by omega)).trans hT.1
        have e2c : am_ui I 0 4 (nI t) 2 = I 2 := am_ui_o (by omega)
        have hbt := hB.2 t hlt
        refine hG2 [(0, []), (38, [])] 100 0 _ _ _ _ ?_
        show (¬ am_ui I 0 4 (nI t) 0 4 < am_ui I 0 4 (nI t) 0 3 → _) ∧ (am_ui I 0 4 (nI t) 0 4 < am_ui I 0 4 (nI t) 0 3 → vp_in (am_ui I 0 4 (nI t) 0 4) 100 ∧ ((¬ am_ui I 0 4 (nI t) 2 (am_ui I 0 4 (nI t) 0 4).toNatClampNeg = 32 → _) ∧ (am_ui I 0 4 (nI t) 2 (am_ui I 0 4 (nI t) 0 4).toNatClampNeg = 32 → G2 0 [some (.ref 0)] [] (am_ui (am_ui I 0 4 (nI t)) 0 4 (am_ui I 0 4 (nI t) 0 4 + 1)) L)))
        rw [am_ui_e, e1, e2c, nI_clamp (by omega), hT.2 t hlt, nI_1]
        refine am_nf (nI_lt hlt (by omega)) (And.intro (am_vin (by omega) rfl) ?_)
        by_cases hb : tt t = 32
        · refine am_nf (by rw [hb]; rfl) ?_
          have e5 : am_ui (am_ui I 0 4 (nI t)) 0 4 (nI (t + 1)) = am_ui I 0 4 (nI (t + 1)) := by
            funext a b
            simp only [am_ui_r]
            split <;> rfl
          rw [e5]
          exact ih (t + 1) (by omega) (by omega) (by rw [p_at_step ht ⟨hlt, hb⟩]; exact he)
        · have e3 : p_at tn tt s = t := by rw [← he]; exact p_at_id (fun q => hb q.2)
          have e4 : p_c tn tt s = nI (tt t) := by unfold p_c; rw [e3, if_pos hlt]
          rw [e3, e4] at h
          refine am_nt (fun z => hb ?_) ?_
          · have z : nI (tt t) = nI 32 := z
            exact (nI_eq (by omega) (by omega)).mp z
          · refine hG2 [] 100 38 _ _ _ _ ?_
            show (¬ am_ui I 0 4 (nI t) 0 4 < am_ui I 0 4 (nI t) 0 3 → _) ∧ (am_ui I 0 4 (nI t) 0 4 < am_ui I 0 4 (nI t) 0 3 → vp_in (am_ui I 0 4 (nI t) 0 4) 100 ∧ post (some (.int (am_ui I 0 4 (nI t) 2 (am_ui I 0 4 (nI t) 0 4).toNatClampNeg))) (am_ui I 0 4 (nI t)) L)
            rw [am_ui_e, e1, e2c, nI_clamp (by omega), hT.2 t hlt]
            exact am_nf (nI_lt hlt (by omega)) (And.intro (am_vin (by omega) rfl) h)
    have := loop (tn - s) s rfl hs rfl
    rw [am_ui_id h2] at this
    exact this
  · exact h.elim
def T_MD_isRead : am_Sp := fun vs I L post => match vs with
  | [.ref o, .int x, .int y] => o = 0 ∧ ∃ D a b, PM I D ∧ a < 8 ∧ b < 8 ∧ x = nI a ∧ y = nI b ∧ post (some (.int (am_b (¬ g_wy D a b = 0)))) I L
  | _ => False
abbrev sp_MD_isRead : Nat → am_Sp := fun _ => am_no
set_option maxRecDepth 100000 in
set_option maxHeartbeats 4000000 in
theorem ok_MD_isRead : am_Ok am_SM sp_MD_isRead true k_MD_isRead 5 T_MD_isRead := by
  intro vs I L post h
  unfold T_MD_isRead at h
  split at h
  · rename_i o x y
    obtain ⟨rfl, D, a, b, hP, ha, hb, rfl, rfl, h⟩ := h
    refine ⟨Nat.le_of_ble_eq_true rfl, fun G2 hG2 => ?_⟩
    obtain ⟨hW, h43, h44, c7, c8, c11, cw, cs⟩ := id hP
    have h12 := hW.1
    have loop : ∀ n k, D 0 - k = n → k ≤ D 0 → G2 5 [some (.ref 0), some (.int (nI a)), some (.int (nI b)), some (.int (am_b (¬ g_w D a b k = 0))), some (.int (nI k))] [] I L := by
      intro n
      induction n with
      | zero =>
        intro k hn hk
        have e : k = D 0 := by omega
        subst e
        exact hG2 [(5, [])] 100 5 _ _ _ _ (am_nt (by rw [c7]; exact nI_nlt (Nat.le_refl _) (by omega)) (And.intro am_bb h))
      | succ n ih =>
        intro k hn hk
        have hk2 : k < D 0 := by omega
        have h2 := hW.2.1 k hk2
        obtain ⟨ca, cb⟩ := cw k hk2
        have ck : (nI k).toNatClampNeg = k := nI_clamp (by omega)
        have va : I 3 (nI k).toNatClampNeg = nI (D (1 + k)) := by rw [ck]; exact ca
        have vb : I 4 (nI k).toNatClampNeg = nI (D (13 + k)) := by rw [ck]; exact cb
        have vk : vp_in (nI k) 13 := am_vin (by omega) rfl
        have yes : (¬ g_w D a b k = 0 ∨ g_j D a b k = true) → G2 62 [some (.ref 0), some (.int (nI a)), some (.int (nI b)), some (.int (am_b (¬ g_w D a b k = 0))), some (.int (nI k))] [] I L := by
          intro hy
          refine hG2 [(5, [])] 100 62 _ _ _ _ ?_
          show G2 5 [some (.ref 0), some (.int (nI a)), some (.int (nI b)), some (.int (1)), some (.int (nI k + 1))] [] I L
          have e : am_b (¬ g_w D a b (k + 1) = 0) = 1 := am_b1 (by
            simp only [g_w]
            split
            · omega
            · rename_i hj
              rcases hy with q | q
              · exact q
              · exact absurd q hj)
          rw [nI_1, ← e]
          exact ih (k + 1) (by omega) (by omega)
        have no : g_w D a b k = 0 → ¬ g_j D a b k = true → G2 66 [some (.ref 0), some (.int (nI a)), some (.int (nI b)), some (.int (am_b (¬ g_w D a b k = 0))), some (.int (nI k))] [] I L := by
          intro h0 hj
          refine hG2 [(5, [])] 100 66 _ _ _ _ ?_
          show G2 5 [some (.ref 0), some (.int (nI a)), some (.int (nI b)), some (.int (0)), some (.int (nI k + 1))] [] I L
          have e : am_b (¬ g_w D a b (k + 1) = 0) = 0 := am_b0 (by
            simp only [g_w, if_neg hj]
            exact fun q => q h0)
          rw [nI_1, ← e]
          exact ih (k + 1) (by omega) (by omega)
        by_cases h0 : g_w D a b k = 0
        · have w1 : ∀ u, u < 8 → (I 3 (nI k).toNatClampNeg = nI u ↔ D (1 + k) = u) := fun u hu => by rw [va, nI_eq (by omega) (by omega)]
          have w2 : ∀ u, u < 8 → (I 4 (nI k).toNatClampNeg = nI u ↔ D (13 + k) = u) := fun u hu => by rw [vb, nI_eq (by omega) (by omega)]
          have c1 := w1 a ha
          have c2 := w2 b hb
          have c3 := w1 b hb
          have c4 := w2 a ha
          have hjd : g_j D a b k = true ↔ (D (1 + k) = a ∧ D (13 + k) = b) ∨ (D (1 + k) = b ∧ D (13 + k) = a) := by simp [g_j]
          refine hG2 [(62, []), (66, []), (40, [])] 100 5 _ _ _ _ (am_nf (by rw [c7]; exact nI_lt hk2 (by omega)) (am_nf (am_b0 (fun q => q h0)) (And.intro vk ?_)))
          have second : (¬ (D (1 + k) = a ∧ D (13 + k) = b)) → G2 40 [some (.ref 0), some (.int (nI a)), some (.int (nI b)), some (.int (am_b (¬ g_w D a b k = 0))), some (.int (nI k))] [] I L := by
            intro hn1
            refine hG2 [(62, []), (66, [])] 100 40 _ _ _ _ (And.intro vk ?_)
            by_cases e1 : D (1 + k) = b
            · refine am_nf (c3.mpr e1) (And.intro vk ?_)
              by_cases e2 : D (13 + k) = a
              · exact am_nf (c4.mpr e2) (yes (Or.inr (hjd.mpr (Or.inr ⟨e1, e2⟩))))
              · exact am_nt (fun z => e2 (c4.mp z)) (no h0 (fun z => by rcases hjd.mp z with q | q; exact hn1 q; exact e2 q.2))
            · exact am_nt (fun z => e1 (c3.mp z)) (no h0 (fun z => by rcases hjd.mp z with q | q; exact hn1 q; exact e1 q.1))
          by_cases e1 : D (1 + k) = a
          · refine am_nf (c1.mpr e1) (And.intro vk ?_)
            by_cases e2 : D (13 + k) = b
            · exact am_t (c2.mpr e2) (yes (Or.inr (hjd.mpr (Or.inl ⟨e1, e2⟩))))
            · exact am_f (fun z => e2 (c2.mp z)) (second (fun q => e2 q.2))
          · exact am_nt (fun z => e1 (c1.mp z)) (second (fun q => e1 q.1))
        · exact hG2 [(62, [])] 100 5 _ _ _ _ (am_nf (by rw [c7]; exact nI_lt hk2 (by omega)) (am_nt (am_bp h0) (yes (Or.inl h0))))
    refine hG2 [(5, [])] 50 0 _ _ _ _ ?_
    show G2 5 [some (.ref 0), some (.int (nI a)), some (.int (nI b)), some (.int (0)), some (.int (0))] [] I L
    have e : am_b (¬ g_w D a b 0 = 0) = 0 := am_b0 (fun q => q rfl)
    rw [← e]
    exact loop (D 0) 0 (by omega) (by omega)
  · exact h.elim
