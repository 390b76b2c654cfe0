/-! THE REFERENCE: a way read -/
theorem m_dg {tn : Nat} {tt : Nat → Nat} (s : Nat) : (p_dg tn tt s = -1 ∧ ¬ (0 ≤ p_c tn tt s - 48 ∧ p_c tn tt s - 48 < 8)) ∨ ∃ x, x < 8 ∧ p_dg tn tt s = nI x ∧ p_c tn tt s - 48 = nI x ∧ p_at tn tt s < tn := by
  unfold p_dg
  by_cases q : 0 ≤ p_c tn tt s - 48 ∧ p_c tn tt s - 48 < 8
  · right
    obtain ⟨x, hx, e⟩ := am_rng (n := 8) (by omega) q.1 q.2
    exact ⟨x, hx, by rw [if_pos q]; exact e, e, p_at_lt (fun z => by rw [z] at q; exact absurd q.1 (by decide))⟩
  · exact Or.inl ⟨by rw [if_neg q], q⟩
theorem m_n1 {x : Nat} (h : x < 8) : ¬ nI x = -1 := fun z => nI_pos (n := x) (by omega) (by rw [z]; decide)
theorem m_pl {x : Nat} (h : x < 8) : 0 ≤ nI x ∧ nI x < 8 := ⟨nI_le0 x (by omega), am_lt h rfl⟩
/-- the way stands in the row -/
theorem PM_add {I I2 : am_I} {D : Nat → Nat} {x y : Nat} (h : PM I D) (hx : x < 8) (hy : y < 8) (hxy : x ≠ y) (hw : g_wy D x y = 0) (h12 : D 0 < 12) (c7 : I2 0 7 = nI (D 0 + 1)) (c8 : I2 0 8 = I 0 8) (c11 : I2 0 11 = I 0 11) (a3 : I2 3 (D 0) = nI (if x < y then x else y)) (a4 : I2 4 (D 0) = nI (if x < y then y else x)) (o3 : ∀ k, ¬ k = D 0 → I2 3 k = I 3 k ∧ I2 4 k = I 4 k) (ho : I2 5 = I 5 ∧ I2 6 = I 6) : PM I2 (g_add D x y false) := by
  obtain ⟨w, h43, h44, b7, b8, b11, cw, cs⟩ := h
  have eo : ∀ i, 25 ≤ i → g_add D x y false i = D i := fun i hi => by
    unfold g_add
    rw [if_neg (by omega), if_neg (by omega), if_neg (by omega)]
    by_cases e : i = 25
    · subst e; rw [if_pos rfl]; simp
    · rw [if_neg e]
  have e0 : g_add D x y false 0 = D 0 + 1 := by unfold g_add; rw [if_pos rfl]
  refine ⟨WG_add w hx hy hxy hw h12 (fun z => by cases z), (eo 43 (by omega)).trans h43, (eo 44 (by omega)).trans h44, by rw [e0]; exact c7, by rw [eo 25 (by omega), c8]; exact b8, by rw [eo 26 (by omega), c11]; exact b11, fun k hk => ?_, fun p hp hb => ?_⟩
  · rw [e0] at hk
    by_cases e : k = D 0
    · subst e
      have u1 : g_add D x y false (1 + D 0) = if x < y then x else y := by unfold g_add; rw [if_neg (by omega), if_pos rfl]
      have u2 : g_add D x y false (13 + D 0) = if x < y then y else x := by unfold g_add; rw [if_neg (by omega), if_neg (by omega), if_pos rfl]
      rw [a3, a4, u1, u2]
      exact ⟨rfl, rfl⟩
    · have hk2 : k < D 0 := by omega
      rw [(o3 k e).1, (o3 k e).2]
      have u1 : g_add D x y false (1 + k) = D (1 + k) := by
        unfold g_add
        rw [if_neg (by omega), if_neg (by omega), if_neg (by omega), if_neg (by omega)]
      have u2 : g_add D x y false (13 + k) = D (13 + k) := by
        unfold g_add
        rw [if_neg (by omega), if_neg (by omega), if_neg (by omega), if_neg (by omega)]
      rw [u1, u2]
      exact cw k hk2
  · rw [eo 26 (by omega)] at hb
    rw [ho.1, ho.2, eo _ (by omega), eo _ (by omega)]
    exact cs p hp hb
/-- and is doubtful -/
theorem PM_dbt {I I2 : am_I} {D : Nat → Nat} {x y : Nat} (w : WG D) (h : PM I (g_add D x y false)) (hx : x < 8) (hy : y < 8) (hxy : x ≠ y) (hw : g_wy D x y = 0) (h12 : D 0 < 12) (h6 : g_pc (D 25) 12 < 6) (c8 : I2 0 8 = nI (g_set (D 25) (D 0))) (h0 : ∀ k : Nat, k ≠ 4 → k ≠ 8 → I2 0 k = I 0 k) (ha : ∀ a : Nat, 3 ≤ a → a ≤ 6 → I2 a = I a) : PM I2 (g_add D x y true) := by
  obtain ⟨_, h43, h44, b7, b8, b11, cw, cs⟩ := h
  have eo : ∀ i, ¬ i = 25 → g_add D x y true i = g_add D x y false i := fun i hi => by
    unfold g_add
    by_cases e0 : i = 0
    · rw [if_pos e0, if_pos e0]
    · rw [if_neg e0, if_neg e0]
      by_cases e1 : i = 1 + D 0
      · rw [if_pos e1, if_pos e1]
      · rw [if_neg e1, if_neg e1]
        by_cases e2 : i = 13 + D 0
        · rw [if_pos e2, if_pos e2]
        · rw [if_neg e2, if_neg e2, if_neg hi, if_neg hi]
  have e25 : g_add D x y true 25 = g_set (D 25) (D 0) := by
    unfold g_add
    rw [if_neg (by omega), if_neg (by omega), if_neg (by omega), if_pos rfl, if_pos rfl]
  refine ⟨WG_add w hx hy hxy hw h12 (fun _ => h6), (eo 43 (by omega)).trans h43, (eo 44 (by omega)).trans h44, by rw [eo 0 (by omega), h0 7 (by omega) (by omega)]; exact b7, by rw [e25]; exact c8, by rw [eo 26 (by omega), h0 11 (by omega) (by omega)]; exact b11, fun k hk => ?_, fun p hp hb => ?_⟩
  · rw [eo 0 (by omega)] at hk
    have e0 : g_add D x y false 0 = D 0 + 1 := by unfold g_add; rw [if_pos rfl]
    rw [ha 3 (by omega) (by omega), ha 4 (by omega) (by omega), eo _ (by omega), eo _ (by omega)]
    exact cw k hk
  · rw [eo 26 (by omega)] at hb
    rw [ha 5 (by omega) (by omega), ha 6 (by omega) (by omega), eo _ (by omega), eo _ (by omega)]
    exact cs p hp hb
def m_Po (I : am_I) (tn : Nat) (r : Bool × Nat × (Nat → Nat)) (post : am_Po) (L : am_J) : Prop := ∀ I2 : am_I, MPF I I2 → I2 0 4 = nI r.2.1 → r.2.1 ≤ tn → (r.1 = true → PM I2 r.2.2) → post (some (.int (am_b (r.1 = true)))) I2 L
theorem m_Po0 {I : am_I} {tn : Nat} {r : Bool × Nat × (Nat → Nat)} {post : am_Po} {L : am_J} (h : m_Po I tn r post L) {t : Nat} {D : Nat → Nat} {I2 : am_I} (e : r = (false, t, D)) (hf : MPF I I2) (h4 : I2 0 4 = nI t) (ht : t ≤ tn) : post (some (.int 0)) I2 L := by
  subst e
  exact h I2 hf h4 ht (fun z => by cases z)
theorem m_Po1 {I : am_I} {tn : Nat} {r : Bool × Nat × (Nat → Nat)} {post : am_Po} {L : am_J} (h : m_Po I tn r post L) {t : Nat} {D : Nat → Nat} {I2 : am_I} (e : r = (true, t, D)) (hf : MPF I I2) (h4 : I2 0 4 = nI t) (ht : t ≤ tn) (hp : PM I2 D) : post (some (.int 1)) I2 L := by
  subst e
  exact h I2 hf h4 ht (fun _ => hp)
def T_MD_takesWay : am_Sp := fun vs I L post => match vs with
  | [.ref o] => o = 0 ∧ ∃ tn tt s D, p_B tn tt ∧ MT I tn tt ∧ s ≤ tn ∧ I 0 4 = nI s ∧ PM I D ∧ D 0 < 12 ∧ m_Po I tn (p_way tn tt s D) post L
  | _ => False
def sp_MD_takesWay : Nat → am_Sp := fun i => match i with
  | 66 => T_MD_isPlace
  | 74 => T_MD_ones
  | 105 => T_MD_ahead
  | 109 => T_MD_isRead
  | _ => am_no
set_option maxRecDepth 100000 in
set_option maxHeartbeats 4000000 in
theorem ok_MD_takesWay : am_Ok am_SM sp_MD_takesWay true k_MD_takesWay 3 T_MD_takesWay := by
  intro vs I L post h
  unfold T_MD_takesWay at h
  split at h
  · rename_i o
    obtain ⟨rfl, tn, tt, s, D, hB, hT, hs, h4, hP, h12d, h⟩ := h
    refine ⟨Nat.le_of_ble_eq_true rfl, fun G2 hG2 => ?_⟩
    have ht := hB.1
    have hW := hP.1
    obtain ⟨a1, a2, a3⟩ := p_at_spec (tt := tt) ht _ s rfl hs
    refine hG2 [(8, [])] 100 0 _ _ _ _ (And.intro (rfl) (Exists.intro (tn) (Exists.intro (tt) (Exists.intro (s) (And.intro (hB) (And.intro (hT) (And.intro (hs) (And.intro (h4) (?_)))))))))
    show G2 8 [some (.ref 0), some (.int (p_c tn tt s - 48)), none] [] (am_ui I 0 4 (nI (p_at tn tt s))) L
    rcases m_dg (tn := tn) (tt := tt) s with ⟨e, hd⟩ | ⟨x, hx, e, ex, l1⟩
    · exact hG2 [] 100 8 _ _ _ _ (am_nf (am_bn hd) (And.intro (Or.inl rfl) (m_Po0 h (by unfold p_way; rw [if_pos e]) MPF_4 am_ui_e a2)))
    · have n1 : ¬ p_dg tn tt s = -1 := by rw [e]; exact m_n1 hx
      have cx : (p_dg tn tt s).toNatClampNeg = x := by rw [e]; exact nI_clamp (by omega)
      obtain ⟨s1, hs1⟩ : ∃ s1, s1 = p_at tn tt s + 1 := ⟨_, rfl⟩
      obtain ⟨b1, b2, b3⟩ := p_at_spec (tt := tt) ht _ s1 rfl (by omega)
      rw [ex]
      refine hG2 [(27, [])] 100 8 _ _ _ _ (am_nt (am_bp (m_pl hx)) ?_)
      show G2 27 [some (.ref 0), some (.int (nI x)), none] [] (am_ui (am_ui I 0 4 (nI (p_at tn tt s))) 0 4 (am_ui I 0 4 (nI (p_at tn tt s)) 0 4 + 1)) L
      rw [am_ui_ui, am_ui_e, nI_1, ← hs1]
      refine hG2 [(35, [])] 100 27 _ _ _ _ (And.intro (rfl) (Exists.intro (tn) (Exists.intro (tt) (Exists.intro (s1) (And.intro (hB) (And.intro (MT_PF hT MPF_4) (And.intro (by omega) (And.intro (am_ui_e) (?_)))))))))
      show G2 35 [some (.ref 0), some (.int (nI x)), some (.int (p_c tn tt s1 - 48))] [] (am_ui (am_ui I 0 4 (nI s1)) 0 4 (nI (p_at tn tt s1))) L
      rw [am_ui_ui]
      have no : ∀ c : Int32, (p_dg tn tt s1 = -1 ∨ p_dg tn tt s = p_dg tn tt s1 ∨ ¬ g_wy D (p_dg tn tt s).toNatClampNeg (p_dg tn tt s1).toNatClampNeg = 0) → G2 56 [some (.ref 0), some (.int (nI x)), some (.int (c))] [] (am_ui I 0 4 (nI (p_at tn tt s1))) L := by
        intro c hc
        exact hG2 [] 100 56 _ _ _ _ (And.intro (Or.inl rfl) (m_Po0 h (by unfold p_way; rw [← hs1, if_neg n1, if_pos hc]) MPF_4 am_ui_e b2))
      rcases m_dg (tn := tn) (tt := tt) s1 with ⟨e2, hd2⟩ | ⟨y, hy, e2, ey, l2⟩
      · exact hG2 [(56, [])] 100 35 _ _ _ _ (am_t (am_bn hd2) (no _ (Or.inl e2)))
      · have n2 : ¬ p_dg tn tt s1 = -1 := by rw [e2]; exact m_n1 hy
        have cy : (p_dg tn tt s1).toNatClampNeg = y := by rw [e2]; exact nI_clamp (by omega)
        rw [ey]
        by_cases hxy : x = y
        · exact hG2 [(56, [])] 100 35 _ _ _ _ (am_f (am_bp (m_pl hy)) (am_t (by rw [hxy]) (no _ (Or.inr (Or.inl (by rw [e, e2, hxy]))))))
        · have nxy : ¬ nI x = nI y := fun z => hxy ((nI_eq (by omega) (by omega)).mp z)
          refine hG2 [(56, []), (58, [])] 100 35 _ _ _ _ (am_f (am_bp (m_pl hy)) (am_f nxy (And.intro (rfl) (Exists.intro (D) (Exists.intro (x) (Exists.intro (y) (And.intro (PM_4 hP) (And.intro (hx) (And.intro (hy) (And.intro (rfl) (And.intro (rfl) (?_))))))))))))
          by_cases hw : g_wy D x y = 0
          · refine am_t (am_bn (fun q => q hw)) ?_
            obtain ⟨s2, hs2⟩ : ∃ s2, s2 = p_at tn tt s1 + 1 := ⟨_, rfl⟩
            obtain ⟨d1, d2, d3⟩ := p_at_spec (tt := tt) ht _ s2 rfl (by omega)
            have hpw : p_way tn tt s D = if p_c tn tt s2 = 63 then (if g_pc (D 25) 12 = 6 then (false, p_at tn tt s2, D) else (true, p_at tn tt s2 + 1, g_add D x y true)) else (true, p_at tn tt s2, g_add D x y false) := by
              unfold p_way
              rw [← hs1, ← hs2, if_neg n1, if_neg (by rintro (q | q | q); exact n2 q; exact nxy (by rw [← e, ← e2]; exact q); exact q (by rw [cx, cy]; exact hw)), cx, cy]
            have h12 := hP.1.1
            have hp6 := hP.1.2.2.2.2.2.1
            obtain ⟨_, _, _, c7, c8, c11, _, _⟩ := id hP
            -- behind the way
            have at116 : ∀ I9 : am_I, PM I9 (g_add D x y false) → MPF I I9 → I9 0 4 = nI s2 → G2 116 [some (.ref 0), some (.int (nI x)), some (.int (nI y))] [] I9 L := by
              intro I9 hP9 hf9 h49
              have e0 : g_add D x y false 0 = D 0 + 1 := by unfold g_add; rw [if_pos rfl]
              have e25 : g_add D x y false 25 = D 25 := by
                unfold g_add
                rw [if_neg (by omega), if_neg (by omega), if_neg (by omega), if_pos rfl]; simp
              have b7 : I9 0 7 = nI (D 0 + 1) := by rw [← e0]; exact hP9.2.2.2.1
              have b8 : I9 0 8 = nI (D 25) := by rw [← e25]; exact hP9.2.2.2.2.1
              refine hG2 [(166, [])] 100 116 _ _ _ _ (And.intro (rfl) (Exists.intro (tn) (Exists.intro (tt) (Exists.intro (s2) (And.intro (hB) (And.intro (MT_PF hT hf9) (And.intro (by omega) (And.intro (h49) (?_)))))))))
              have hP9b := PM_4 (v := nI (p_at tn tt s2)) hP9
              by_cases h63 : p_c tn tt s2 = 63
              · rw [if_pos h63] at hpw
                have l3 : p_at tn tt s2 < tn := p_at_lt (by rw [h63]; decide)
                refine am_nf h63 (Exists.intro (D 25) (And.intro ((am_uk (by omega)).trans b8) (?_)))
                by_cases hrm : g_pc (D 25) 12 = 6
                · rw [if_pos hrm] at hpw
                  exact am_nf (by rw [hrm]; rfl) (And.intro (Or.inl rfl) (m_Po0 h hpw (MPF_tr hf9 MPF_4) am_ui_e d2))
                · rw [if_neg hrm] at hpw
                  refine am_nt (fun z => hrm ((nI_eq (b := 6) (by omega) (by omega)).mp z)) ?_
                  have lastx : ∀ I3 : am_I, MPF I I3 → I3 0 4 = nI (p_at tn tt s2 + 1) → PM I3 (g_add D x y true) → G2 166 [some (.ref 0), some (.int (nI x)), some (.int (nI y))] [] I3 L := fun I3 f3 f4 f5 => hG2 [] 100 166 _ _ _ _ (And.intro (Or.inr rfl) (m_Po1 h hpw f3 f4 l3 f5))
                  refine lastx _ ?_ ?_ ?_
                  · exact MPF_tr hf9 (MPF_tr MPF_4 ⟨fun a a0 _ _ _ _ => by rw [am_ui_o a0, am_ui_o a0], fun k k4 k7 k8 k11 => by rw [am_uk k4, am_uk k8]⟩)
                  · rw [am_ui_e, am_uk (show (4 : Nat) ≠ 8 by omega), am_ui_e, nI_1]
                  · refine PM_dbt hW hP9 hx hy hxy hw h12d (by omega) ?_ (fun k k4 k8 => by rw [am_uk k4, am_uk k8, am_uk k4]) (fun a h1 h2 => by rw [am_ui_o (by omega), am_ui_o (by omega), am_ui_o (by omega)])
                    rw [am_uk (show (8 : Nat) ≠ 4 by omega), am_ui_e, am_uk (show (8 : Nat) ≠ 4 by omega), am_uk (show (7 : Nat) ≠ 4 by omega), b7, b8, nI_pred, g_set_I _ (by omega)]
              · rw [if_neg h63] at hpw
                refine am_nt h63 ?_
                exact hG2 [] 100 166 _ _ _ _ (And.intro (Or.inr rfl) (m_Po1 h hpw (MPF_tr hf9 MPF_4) am_ui_e d2 hP9b))
            refine hG2 [(68, [])] 100 58 _ _ _ _ ?_
            show G2 68 [some (.ref 0), some (.int (nI x)), some (.int (nI y))] [] (am_ui (am_ui I 0 4 (nI (p_at tn tt s1))) 0 4 (am_ui I 0 4 (nI (p_at tn tt s1)) 0 4 + 1)) L
            rw [am_ui_ui, am_ui_e, nI_1, ← hs2]
            have j7 : am_ui I 0 4 (nI s2) 0 7 = nI (D 0) := (am_uk (by omega)).trans c7
            have j7b : ∀ w : Int32, am_ui (am_ui I 0 4 (nI s2)) 3 (D 0) w 0 7 = nI (D 0) := fun w => (am_uo (by omega)).trans j7
            have cD : (nI (D 0)).toNatClampNeg = D 0 := nI_clamp (by omega)
            have v13 : vp_in (nI (D 0)) 13 := am_vin (by omega) rfl
            have fill : ∀ lo hi : Nat, lo = (if x < y then x else y) → hi = (if x < y then y else x) → G2 116 [some (.ref 0), some (.int (nI x)), some (.int (nI y))] [] (am_ui (am_ui (am_ui (am_ui I 0 4 (nI s2)) 3 (D 0) (nI lo)) 4 (D 0) (nI hi)) 0 7 (nI (D 0 + 1))) L := by
              intro lo hi hlo hhi
              refine at116 _ (PM_add (PM_4 (v := nI s2) hP) hx hy hxy hw h12d am_ui_e ?_ ?_ ?_ ?_ (fun k hk => ⟨?_, ?_⟩) ⟨?_, ?_⟩) (MPF_tr MPF_4 ⟨fun a a0 a3 a4 _ _ => by rw [am_ui_o a0, am_ui_o a4, am_ui_o a3], fun k k4 k7 k8 k11 => by rw [am_uk k7, am_uo (by omega), am_uo (by omega)]⟩) ?_
              · rw [am_uk (by omega), am_uo (by omega), am_uo (by omega)]
              · rw [am_uk (by omega), am_uo (by omega), am_uo (by omega)]
              · rw [am_uo (by omega), am_uo (by omega), am_ui_e, hlo]
              · rw [am_uo (by omega), am_ui_e, hhi]
              · rw [am_uo (by omega), am_uo (by omega), am_uk hk]
              · rw [am_uo (by omega), am_uk hk, am_uo (by omega)]
              · rw [am_ui_o (by omega), am_ui_o (by omega), am_ui_o (by omega)]
              · rw [am_ui_o (by omega), am_ui_o (by omega), am_ui_o (by omega)]
              · rw [am_uk (by omega), am_uo (by omega), am_uo (by omega), am_ui_e]
            by_cases hlt : x < y
            · have hl2 : nI x < nI y := nI_lt hlt (by omega)
              refine hG2 [(87, [])] 100 68 _ _ _ _ (am_nf hl2 (And.intro (by rw [j7]; exact v13) ?_))
              show G2 87 [some (.ref 0), some (.int (nI x)), some (.int (nI y))] [] (am_ui (am_ui I 0 4 (nI s2)) 3 (am_ui I 0 4 (nI s2) 0 7).toNatClampNeg (nI x)) L
              rw [j7, cD]
              refine hG2 [(116, [])] 100 87 _ _ _ _ (am_nf hl2 (And.intro (by rw [j7b]; exact v13) ?_))
              show G2 116 [some (.ref 0), some (.int (nI x)), some (.int (nI y))] [] (am_ui (am_ui (am_ui (am_ui I 0 4 (nI s2)) 3 (D 0) (nI x)) 4 (am_ui (am_ui I 0 4 (nI s2)) 3 (D 0) (nI x) 0 7).toNatClampNeg (nI y)) 0 7 (am_ui (am_ui (am_ui I 0 4 (nI s2)) 3 (D 0) (nI x)) 4 (am_ui (am_ui I 0 4 (nI s2)) 3 (D 0) (nI x) 0 7).toNatClampNeg (nI y) 0 7 + 1)) L
              rw [am_uo (show (0 : Nat) ≠ 4 by omega), j7b, cD, nI_1]
              exact fill x y (by rw [if_pos hlt]) (by rw [if_pos hlt])
            · have hl2 : ¬ nI x < nI y := nI_nlt (by omega) (by omega)
              refine hG2 [(87, [])] 100 68 _ _ _ _ (am_nt hl2 (And.intro (by rw [j7]; exact v13) ?_))
              show G2 87 [some (.ref 0), some (.int (nI x)), some (.int (nI y))] [] (am_ui (am_ui I 0 4 (nI s2)) 3 (am_ui I 0 4 (nI s2) 0 7).toNatClampNeg (nI y)) L
              rw [j7, cD]
              refine hG2 [(116, [])] 100 87 _ _ _ _ (am_nt hl2 (And.intro (by rw [j7b]; exact v13) ?_))
              show G2 116 [some (.ref 0), some (.int (nI x)), some (.int (nI y))] [] (am_ui (am_ui (am_ui (am_ui I 0 4 (nI s2)) 3 (D 0) (nI y)) 4 (am_ui (am_ui I 0 4 (nI s2)) 3 (D 0) (nI y) 0 7).toNatClampNeg (nI x)) 0 7 (am_ui (am_ui (am_ui I 0 4 (nI s2)) 3 (D 0) (nI y)) 4 (am_ui (am_ui I 0 4 (nI s2)) 3 (D 0) (nI y) 0 7).toNatClampNeg (nI x) 0 7 + 1)) L
              rw [am_uo (show (0 : Nat) ≠ 4 by omega), j7b, cD, nI_1]
              exact fill y x (by rw [if_neg hlt]) (by rw [if_neg hlt])
          · exact am_f (am_bp hw) (no _ (Or.inr (Or.inr (by rw [cx, cy]; exact hw))))
  · exact h.elim
