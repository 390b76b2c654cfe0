/-! THE REFERENCE: a stone read -/
theorem PM_sto {I I2 : am_I} {D : Nat → Nat} {x y k : Nat} (h : PM I D) (hx : x < 8) (hy : y < 8) (hk : k < D 0) (c11 : I2 0 11 = nI (g_set (D 26) x)) (a5 : I2 5 x = nI y) (a6 : I2 6 x = nI k) (o5 : ∀ j, ¬ j = x → I2 5 j = I 5 j ∧ I2 6 j = I 6 j) (h0 : ∀ k : Nat, k ≠ 4 → k ≠ 11 → I2 0 k = I 0 k) (ho : I2 3 = I 3 ∧ I2 4 = I 4) : PM I2 (g_sto D x y k) := by
  obtain ⟨w, h43, h44, b7, b8, b11, cw, cs⟩ := h
  have h12 := w.1
  have eo : ∀ i, i < 26 → g_sto D x y k i = D i := fun i hi => by rw [g_sto_r, if_neg (by omega), if_neg (by omega), if_neg (by omega)]
  have e26 : g_sto D x y k 26 = g_set (D 26) x := by rw [g_sto_r, if_pos rfl]
  refine ⟨WG_side w hx hy hk, by rw [g_sto_r, if_neg (by omega), if_neg (by omega), if_neg (by omega)]; exact h43, by rw [g_sto_r, if_neg (by omega), if_neg (by omega), if_neg (by omega)]; exact h44, by rw [eo 0 (by omega), h0 7 (by omega) (by omega)]; exact b7, by rw [eo 25 (by omega), h0 8 (by omega) (by omega)]; exact b8, by rw [e26]; exact c11, fun j hj => ?_, fun p hp hb => ?_⟩
  · rw [eo 0 (by omega)] at hj
    rw [ho.1, ho.2, eo _ (by omega), eo _ (by omega)]
    exact cw j hj
  · by_cases e : p = x
    · subst e
      rw [a5, a6]
      have u1 : g_sto D p y k (27 + p) = y := by rw [g_sto_r, if_neg (by omega), if_neg (by omega), if_pos rfl]
      have u2 : g_sto D p y k (35 + p) = k := by rw [g_sto_r, if_neg (by omega), if_pos rfl]
      rw [u1, u2]
      exact ⟨rfl, rfl⟩
    · rw [e26, g_set_t] at hb
      simp only [e, decide_false, Bool.or_false] at hb
      rw [(o5 p e).1, (o5 p e).2, g_sto_r, g_sto_r, if_neg (by omega), if_neg (by omega), if_neg (by omega), if_neg (by omega), if_neg (by omega), if_neg (by omega)]
      exact cs p hp hb
theorem m_in0 {a w : Int32} {g : Nat} (hg : g ≤ 12) (hw : w = nI g - 1) : am_b ((0 : Int64) ≤ a.toInt64 ∧ a.toInt64 ≤ w.toInt64) = am_b (0 ≤ a ∧ a < nI g) := by
  rw [← m_way hg, hw]
  exact am_bc (by rw [show (0 : Int64) = (0 : Int32).toInt64 from rfl, fw_le, fw_le])
def T_MD_takesStone : am_Sp := fun vs I L post => match vs with
  | [.ref o] => o = 0 ∧ ∃ tn tt s D, p_B tn tt ∧ MT I tn tt ∧ s ≤ tn ∧ I 0 4 = nI s ∧ PM I D ∧ m_Po I tn (p_stone tn tt s D) post L
  | _ => False
def sp_MD_takesStone : Nat → am_Sp := fun i => match i with
  | 62 => T_MD_in
  | 66 => T_MD_isPlace
  | 83 => T_MD_has
  | 105 => T_MD_ahead
  | 109 => T_MD_isRead
  | _ => am_no
set_option maxRecDepth 100000 in
set_option maxHeartbeats 4000000 in
theorem ok_MD_takesStone : am_Ok am_SM sp_MD_takesStone true k_MD_takesStone 4 T_MD_takesStone := by
  intro vs I L post h
  unfold T_MD_takesStone at h
  split at h
  · rename_i o
    obtain ⟨rfl, tn, tt, s, D, hB, hT, hs, h4, hP, h⟩ := h
    refine ⟨Nat.le_of_ble_eq_true rfl, fun G2 hG2 => ?_⟩
    have ht := hB.1
    have hW := hP.1
    have h12 := hW.1
    obtain ⟨_, _, _, c7, c8, c11, _, _⟩ := id hP
    obtain ⟨a1, a2, a3⟩ := p_at_spec (tt := tt) ht _ s rfl hs
    refine hG2 [(8, [])] 100 0 _ _ _ _ (And.intro (rfl) (Exists.intro (tn) (Exists.intro (tt) (Exists.intro (s) (And.intro (hB) (And.intro (hT) (And.intro (hs) (And.intro (h4) (?_)))))))))
    show G2 8 [some (.ref 0), some (.int (p_c tn tt s - 48)), none, none] [] (am_ui I 0 4 (nI (p_at tn tt s))) L
    rcases m_dg (tn := tn) (tt := tt) s with ⟨e, hd⟩ | ⟨x, hx, e, ex, l1⟩
    · exact hG2 [] 100 8 _ _ _ _ (am_t (am_bn hd) (And.intro (Or.inl rfl) (m_Po0 h (by unfold p_stone; rw [if_pos (Or.inl e)]) MPF_4 am_ui_e a2)))
    · have n1 : ¬ p_dg tn tt s = -1 := by rw [e]; exact m_n1 hx
      have cx : (p_dg tn tt s).toNatClampNeg = x := by rw [e]; exact nI_clamp (by omega)
      obtain ⟨s1, hs1⟩ : ∃ s1, s1 = p_at tn tt s + 1 := ⟨_, rfl⟩
      obtain ⟨b1, b2, b3⟩ := p_at_spec (tt := tt) ht _ s1 rfl (by omega)
      rw [ex]
      have w11 : am_ui I 0 4 (nI (p_at tn tt s)) 0 11 = nI (D 26) := (am_uk (by omega)).trans c11
      by_cases hb : (D 26).testBit x = true
      · exact hG2 [] 100 8 _ _ _ _ (am_f (am_bp (m_pl hx)) (am_f (by rw [w11]; exact am_h1 (by omega) hb) (And.intro (Or.inl rfl) (m_Po0 h (by unfold p_stone; rw [if_pos (Or.inr (by rw [cx]; exact hb))]) MPF_4 am_ui_e a2))))
      · have n1b : ¬ (p_dg tn tt s = -1 ∨ (D 26).testBit (p_dg tn tt s).toNatClampNeg = true) := by rintro (q | q); exact n1 q; exact hb (by rw [← cx]; exact q)
        refine hG2 [(38, [])] 100 8 _ _ _ _ (am_f (am_bp (m_pl hx)) (am_t (by rw [w11]; exact am_h0 (by omega) hb) ?_))
        show G2 38 [some (.ref 0), some (.int (nI x)), none, none] [] (am_ui (am_ui I 0 4 (nI (p_at tn tt s))) 0 4 (am_ui I 0 4 (nI (p_at tn tt s)) 0 4 + 1)) L
        rw [am_ui_ui, am_ui_e, nI_1, ← hs1]
        refine hG2 [(49, [])] 100 38 _ _ _ _ (And.intro (rfl) (Exists.intro (tn) (Exists.intro (tt) (Exists.intro (s1) (And.intro (hB) (And.intro (MT_PF hT MPF_4) (And.intro (by omega) (And.intro (am_ui_e) (?_)))))))))
        rw [am_ui_ui]
        by_cases h60 : p_c tn tt s1 = 60
        · have l2 : p_at tn tt s1 < tn := p_at_lt (by rw [h60]; decide)
          obtain ⟨s2, hs2⟩ : ∃ s2, s2 = p_at tn tt s1 + 1 := ⟨_, rfl⟩
          obtain ⟨d1, d2, d3⟩ := p_at_spec (tt := tt) ht _ s2 rfl (by omega)
          refine am_t h60 ?_
          refine hG2 [(59, [])] 100 49 _ _ _ _ ?_
          show G2 59 [some (.ref 0), some (.int (nI x)), none, none] [] (am_ui (am_ui I 0 4 (nI (p_at tn tt s1))) 0 4 (am_ui I 0 4 (nI (p_at tn tt s1)) 0 4 + 1)) L
          rw [am_ui_ui, am_ui_e, nI_1, ← hs2]
          refine hG2 [(67, [])] 100 59 _ _ _ _ (And.intro (rfl) (Exists.intro (tn) (Exists.intro (tt) (Exists.intro (s2) (And.intro (hB) (And.intro (MT_PF hT MPF_4) (And.intro (by omega) (And.intro (am_ui_e) (?_)))))))))
          show G2 67 [some (.ref 0), some (.int (nI x)), some (.int (p_c tn tt s2 - 48)), none] [] (am_ui (am_ui I 0 4 (nI s2)) 0 4 (nI (p_at tn tt s2))) L
          rw [am_ui_ui]
          have no : ∀ c : Int32, (p_dg tn tt s2 = -1 ∨ g_wy D (p_dg tn tt s).toNatClampNeg (p_dg tn tt s2).toNatClampNeg = 0) → G2 83 [some (.ref 0), some (.int (nI x)), some (.int (c)), none] [] (am_ui I 0 4 (nI (p_at tn tt s2))) L := by
            intro c hc
            exact hG2 [] 100 83 _ _ _ _ (And.intro (Or.inl rfl) (m_Po0 h (by unfold p_stone; rw [← hs1, ← hs2, if_neg n1b, if_neg (fun q => q h60), if_pos hc]) MPF_4 am_ui_e d2))
          rcases m_dg (tn := tn) (tt := tt) s2 with ⟨e2, hd2⟩ | ⟨y, hy, e2, ey, l3⟩
          · exact hG2 [(83, [])] 100 67 _ _ _ _ (am_t (am_bn hd2) (no _ (Or.inl e2)))
          · have n2 : ¬ p_dg tn tt s2 = -1 := by rw [e2]; exact m_n1 hy
            have cy : (p_dg tn tt s2).toNatClampNeg = y := by rw [e2]; exact nI_clamp (by omega)
            rw [ey]
            refine hG2 [(83, []), (85, [])] 100 67 _ _ _ _ (am_f (am_bp (m_pl hy)) (And.intro (rfl) (Exists.intro (D) (Exists.intro (x) (Exists.intro (y) (And.intro (PM_4 hP) (And.intro (hx) (And.intro (hy) (And.intro (rfl) (And.intro (rfl) (?_)))))))))))
            by_cases hw : g_wy D x y = 0
            · exact am_nf (am_bn (fun q => q hw)) (no _ (Or.inr (by rw [cx, cy]; exact hw)))
            · have n2b : ¬ (p_dg tn tt s2 = -1 ∨ g_wy D (p_dg tn tt s).toNatClampNeg (p_dg tn tt s2).toNatClampNeg = 0) := by rintro (q | q); exact n2 q; exact hw (by rw [← cx, ← cy]; exact q)
              refine am_nt (am_bp hw) ?_
              obtain ⟨s3, hs3⟩ : ∃ s3, s3 = p_at tn tt s2 + 1 := ⟨_, rfl⟩
              obtain ⟨f1, f2, f3⟩ := p_at_spec (tt := tt) ht _ s3 rfl (by omega)
              refine hG2 [(95, [])] 100 85 _ _ _ _ ?_
              show G2 95 [some (.ref 0), some (.int (nI x)), some (.int (nI y)), none] [] (am_ui (am_ui I 0 4 (nI (p_at tn tt s2))) 0 4 (am_ui I 0 4 (nI (p_at tn tt s2)) 0 4 + 1)) L
              rw [am_ui_ui, am_ui_e, nI_1, ← hs3]
              refine hG2 [(106, [])] 100 95 _ _ _ _ (And.intro (rfl) (Exists.intro (tn) (Exists.intro (tt) (Exists.intro (s3) (And.intro (hB) (And.intro (MT_PF hT MPF_4) (And.intro (by omega) (And.intro (am_ui_e) (?_)))))))))
              rw [am_ui_ui]
              by_cases h58 : p_c tn tt s3 = 58
              · have l4 : p_at tn tt s3 < tn := p_at_lt (by rw [h58]; decide)
                obtain ⟨s4, hs4⟩ : ∃ s4, s4 = p_at tn tt s3 + 1 := ⟨_, rfl⟩
                obtain ⟨g1, g2, g3⟩ := p_at_spec (tt := tt) ht _ s4 rfl (by omega)
                refine am_t h58 ?_
                refine hG2 [(116, [])] 100 106 _ _ _ _ ?_
                show G2 116 [some (.ref 0), some (.int (nI x)), some (.int (nI y)), none] [] (am_ui (am_ui I 0 4 (nI (p_at tn tt s3))) 0 4 (am_ui I 0 4 (nI (p_at tn tt s3)) 0 4 + 1)) L
                rw [am_ui_ui, am_ui_e, nI_1, ← hs4]
                refine hG2 [(124, [])] 100 116 _ _ _ _ (And.intro (rfl) (Exists.intro (tn) (Exists.intro (tt) (Exists.intro (s4) (And.intro (hB) (And.intro (MT_PF hT MPF_4) (And.intro (by omega) (And.intro (am_ui_e) (?_)))))))))
                show G2 124 [some (.ref 0), some (.int (nI x)), some (.int (nI y)), some (.int (p_c tn tt s4 - 97))] [] (am_ui (am_ui I 0 4 (nI s4)) 0 4 (nI (p_at tn tt s4))) L
                rw [am_ui_ui]
                have hin : am_b ((0 : Int64) ≤ (p_c tn tt s4 - 97).toInt64 ∧ (p_c tn tt s4 - 97).toInt64 ≤ (am_ui I 0 4 (nI (p_at tn tt s4)) 0 7 - 1).toInt64) = am_b (0 ≤ p_c tn tt s4 - 97 ∧ p_c tn tt s4 - 97 < nI (D 0)) := m_in0 h12 (by rw [am_uk (show (7 : Nat) ≠ 4 by omega), c7])
                by_cases hl : 0 ≤ p_c tn tt s4 - 97 ∧ p_c tn tt s4 - 97 < nI (D 0)
                · have l5 : p_at tn tt s4 < tn := p_at_lt (fun z => by rw [z] at hl; exact absurd hl.1 (by decide))
                  have hpw : p_stone tn tt s D = (true, p_at tn tt s4 + 1, g_sto D x y (p_c tn tt s4 - 97).toNatClampNeg) := by
                    unfold p_stone
                    rw [← hs1, ← hs2, ← hs3, ← hs4, if_neg n1b, if_neg (fun q => q h60), if_neg n2b, if_neg (fun q => q h58), if_neg (fun q => q hl), cx, cy]
                  refine hG2 [(142, [])] 100 124 _ _ _ _ (am_nt (by rw [hin]; exact am_bp hl) ?_)
                  obtain ⟨k, hk, ek⟩ := am_rng (n := D 0) (by omega) hl.1 hl.2
                  rw [ek, nI_clamp (by omega)] at hpw
                  rw [ek]
                  have v8 : vp_in (nI x) 8 := am_vin (by omega) rfl
                  have cxx : (nI x).toNatClampNeg = x := nI_clamp (by omega)
                  refine hG2 [(152, [])] 100 142 _ _ _ _ ?_
                  show G2 152 [some (.ref 0), some (.int (nI x)), some (.int (nI y)), some (.int (nI k))] [] (am_ui (am_ui I 0 4 (nI (p_at tn tt s4))) 0 4 (am_ui I 0 4 (nI (p_at tn tt s4)) 0 4 + 1)) L
                  rw [am_ui_ui, am_ui_e, nI_1]
                  refine hG2 [(166, [])] 100 152 _ _ _ _ (And.intro v8 (And.intro v8 ?_))
                  show G2 166 [some (.ref 0), some (.int (nI x)), some (.int (nI y)), some (.int (nI k))] [] (am_ui (am_ui (am_ui I 0 4 (nI (p_at tn tt s4 + 1))) 5 (nI x).toNatClampNeg (nI y)) 6 (nI x).toNatClampNeg (nI k)) L
                  rw [cxx]
                  refine hG2 [] 100 166 _ _ _ _ (And.intro (Or.inr rfl) ?_)
                  show post (some (.int 1)) (am_ui (am_ui (am_ui (am_ui I 0 4 (nI (p_at tn tt s4 + 1))) 5 x (nI y)) 6 x (nI k)) 0 11 (am_ui (am_ui (am_ui I 0 4 (nI (p_at tn tt s4 + 1))) 5 x (nI y)) 6 x (nI k) 0 11 ||| ((1 : Int32) <<< (nI x &&& 31)))) L
                  rw [am_uo (show (0 : Nat) ≠ 6 by omega), am_uo (show (0 : Nat) ≠ 5 by omega), am_uk (show (11 : Nat) ≠ 4 by omega), c11, g_set_I _ (by omega)]
                  refine m_Po1 h hpw ⟨fun a a0 _ _ a5 a6 => by rw [am_ui_o a0, am_ui_o a6, am_ui_o a5, am_ui_o a0], fun j k4 _ _ k11 => by rw [am_uk k11, am_uo (by omega), am_uo (by omega), am_uk k4]⟩ ?_ l5 (PM_sto hP hx hy hk am_ui_e ?_ ?_ (fun j hj => ⟨?_, ?_⟩) (fun j k4 k11 => ?_) ⟨?_, ?_⟩)
                  · rw [am_uk (by omega), am_uo (by omega), am_uo (by omega), am_ui_e]
                  · rw [am_uo (by omega), am_uo (by omega), am_ui_e]
                  · rw [am_uo (by omega), am_ui_e]
                  · rw [am_uo (by omega), am_uo (by omega), am_uk hj, am_uo (by omega)]
                  · rw [am_uo (by omega), am_uk hj, am_uo (by omega), am_uo (by omega)]
                  · rw [am_uk k11, am_uo (by omega), am_uo (by omega), am_uk k4]
                  · rw [am_ui_o (by omega), am_ui_o (by omega), am_ui_o (by omega), am_ui_o (by omega)]
                  · rw [am_ui_o (by omega), am_ui_o (by omega), am_ui_o (by omega), am_ui_o (by omega)]
                · exact hG2 [] 100 124 _ _ _ _ (am_nf (by rw [hin]; exact am_bn hl) (And.intro (Or.inl rfl) (m_Po0 h (by unfold p_stone; rw [← hs1, ← hs2, ← hs3, ← hs4, if_neg n1b, if_neg (fun q => q h60), if_neg n2b, if_neg (fun q => q h58), if_pos hl]) MPF_4 am_ui_e g2)))
              · exact am_f h58 (And.intro (Or.inl rfl) (m_Po0 h (by unfold p_stone; rw [← hs1, ← hs2, ← hs3, if_neg n1b, if_neg (fun q => q h60), if_neg n2b, if_pos h58]) MPF_4 am_ui_e f2))
        · exact am_f h60 (And.intro (Or.inl rfl) (m_Po0 h (by unfold p_stone; rw [← hs1, if_neg n1b, if_pos h60]) MPF_4 am_ui_e b2))
  · exact h.elim
