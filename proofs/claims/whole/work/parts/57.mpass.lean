/-! THE REFERENCE: the pass read -/
theorem p_way_26 {tn : Nat} {tt : Nat → Nat} {s : Nat} {D : Nat → Nat} (h12 : D 0 ≤ 12) : (p_way tn tt s D).2.2 26 = D 26 := by
  have e : ∀ x y d, g_add D x y d 26 = D 26 := fun x y d => by
    unfold g_add
    rw [if_neg (by omega), if_neg (by omega), if_neg (by omega), if_neg (by omega)]
  unfold p_way
  split
  · rfl
  · split
    · rfl
    · split
      · split
        · rfl
        · exact e _ _ _
      · exact e _ _ _
theorem p_stone_26 {tn : Nat} {tt : Nat → Nat} {s : Nat} {D : Nat → Nat} (h : (p_stone tn tt s D).1 = true) : g_pc ((p_stone tn tt s D).2.2 26) 8 = g_pc (D 26) 8 + 1 := by
  unfold p_stone at h ⊢
  split at h
  · cases h
  · rename_i h1
    rw [if_neg h1]
    have hx8 : (p_dg tn tt s).toNatClampNeg < 8 := by
      rcases p_dg_cases (tn := tn) (tt := tt) s with e | ⟨x, hx, e, _⟩
      · exact absurd (Or.inl e) h1
      · rw [e, nI_clamp (by omega)]; exact hx
    have hb : (D 26).testBit (p_dg tn tt s).toNatClampNeg = false := by
      rw [Bool.eq_false_iff]; exact fun z => h1 (Or.inr z)
    split at h
    · cases h
    · rename_i h2
      rw [if_neg h2]
      split at h
      · cases h
      · rename_i h3
        rw [if_neg h3]
        split at h
        · cases h
        · rename_i h4
          rw [if_neg h4]
          split at h
          · cases h
          · rename_i h5
            rw [if_neg h5]
            show g_pc (g_set (D 26) (p_dg tn tt s).toNatClampNeg) 8 = _
            exact g_pc_set hb 8 hx8
theorem m_255 : ∀ v, v < 256 → (v = 255 ↔ g_pc v 8 = 8) := by decide +kernel
theorem g_pc_8 (v : Nat) : g_pc v 8 ≤ 8 := g_pc_le v 8
def m_Pa (I : am_I) (tn : Nat) (r : Bool × Nat × (Nat → Nat)) (post : am_Po) (L : am_J) : Prop := ∀ (t : Nat) (I2 : am_I), MPF I I2 → I2 0 4 = nI t → t ≤ tn → (r.1 = true → PM I2 r.2.2) → (r.1 = false → t = r.2.1) → post (some (.int (am_b (r.1 = true)))) I2 L
def T_MD_isPass : am_Sp := fun vs I L post => match vs with
  | [.ref o] => o = 0 ∧ ∃ tn tt, p_B tn tt ∧ MT I tn tt ∧ m_Pa I tn (p_all tn tt) post L
  | _ => False
def sp_MD_isPass : Nat → am_Sp := fun i => match i with
  | 105 => T_MD_ahead
  | 118 => T_MD_takesWay
  | 122 => T_MD_takesStone
  | _ => am_no
set_option maxRecDepth 100000 in
set_option maxHeartbeats 4000000 in
theorem ok_MD_isPass : am_Ok am_SM sp_MD_isPass true k_MD_isPass 2 T_MD_isPass := by
  intro vs I L post h
  unfold T_MD_isPass at h
  split at h
  · rename_i o
    obtain ⟨rfl, tn, tt, hB, hT, h⟩ := h
    refine ⟨Nat.le_of_ble_eq_true rfl, fun G2 hG2 => ?_⟩
    have ht := hB.1
    -- the end
    have g134 : ∀ (R : Bool × Nat × (Nat → Nat)) (t : Nat) (I3 : am_I) (v : Int32), p_all tn tt = (if R.1 = true then (if p_c tn tt R.2.1 = -1 then R else (false, p_at tn tt R.2.1, g_0 0)) else R) → MPF I I3 → I3 0 4 = nI t → t ≤ tn → ((R.1 = true ∧ v = 1 ∧ PM I3 R.2.2 ∧ p_at tn tt t = p_at tn tt R.2.1) ∨ (R.1 = false ∧ v = 0 ∧ t = R.2.1)) → G2 134 [some (.ref 0), some (.int (v))] [] I3 L := by
      intro R t I3 v hall hf h4 htn hor
      rcases hor with ⟨r1, rfl, hp, hat⟩ | ⟨r0, rfl, rt⟩
      · rw [if_pos r1] at hall
        obtain ⟨b1, b2, b3⟩ := p_at_spec (tt := tt) ht _ t rfl htn
        refine hG2 [] 100 134 _ _ _ _ (am_f (by decide) (And.intro (rfl) (Exists.intro (tn) (Exists.intro (tt) (Exists.intro (t) (And.intro (hB) (And.intro (MT_PF hT hf) (And.intro (htn) (And.intro (h4) (?_))))))))))
        rw [p_c_congr hat]
        by_cases hc : p_c tn tt R.2.1 = -1
        · rw [if_pos hc] at hall
          rw [hc]
          refine am_nf (by decide) (And.intro (Or.inr rfl) ?_)
          have := h (p_at tn tt t) _ (MPF_tr hf (MPF_4 (v := nI (p_at tn tt t)))) am_ui_e b2 (fun _ => by rw [hall]; exact PM_4 hp) (fun z => by rw [hall, r1] at z; cases z)
          rw [am_b1 (by rw [hall]; exact r1)] at this
          exact this
        · rw [if_neg hc] at hall
          have hz : ¬ p_c tn tt R.2.1 < 0 := by
            rcases p_c_rng hB R.2.1 with e | ⟨c, c1, e⟩
            · exact absurd e hc
            · rw [e]; exact nI_pos (by omega)
          refine am_nt hz (And.intro (Or.inl rfl) ?_)
          have := h (p_at tn tt t) _ (MPF_tr hf (MPF_4 (v := nI (p_at tn tt t)))) am_ui_e b2 (fun z => by rw [hall] at z; cases z) (fun _ => by rw [hall]; exact hat)
          rw [am_b0 (fun z => by rw [hall] at z; cases z)] at this
          exact this
      · rw [if_neg (by rw [r0]; decide)] at hall
        refine hG2 [] 100 134 _ _ _ _ (am_t rfl (And.intro (Or.inl rfl) ?_))
        have := h t I3 hf h4 htn (fun z => by rw [hall, r0] at z; cases z) (fun _ => by rw [hall]; exact rt)
        rw [am_b0 (by rw [hall, r0]; decide)] at this
        exact this
    -- the stones
    have at93 : ∀ RS : Bool × Nat × (Nat → Nat), p_all tn tt = (if RS.1 = true then (if p_c tn tt RS.2.1 = -1 then RS else (false, p_at tn tt RS.2.1, g_0 0)) else RS) → ∀ m s D (I1 : am_I), g_pc (D 26) 8 + m = 7 → MPF I I1 → I1 0 4 = nI (p_stone tn tt s D).2.1 → (p_stone tn tt s D).2.1 ≤ tn → ((p_stone tn tt s D).1 = true → PM I1 (p_stone tn tt s D).2.2) → p_rep (p_stone tn tt) tn tt m s D = RS → G2 93 [some (.ref 0), some (.int (am_b ((p_stone tn tt s D).1 = true)))] [] I1 L := by
      intro RS hall m
      induction m with
      | zero =>
        intro s D I1 hD hf h4 ht1 hP hR
        have hR : p_stone tn tt s D = RS := hR
        have hm := p_stone_26 (tn := tn) (tt := tt) (s := s) (D := D)
        rw [hR] at h4 ht1 hP hm
        rw [hR]
        by_cases hr : RS.1 = true
        · have hP := hP hr
          have hw := hP.1.2.2.2.2.2.2.1
          have b11 : RS.2.2 26 = 255 := (m_255 _ hw).mpr (by rw [hm hr]; omega)
          rw [am_b1 hr]
          refine hG2 [(134, [])] 100 93 _ _ _ _ (am_f (by decide) (am_t (by rw [hP.2.2.2.2.2.1, b11]; rfl) ?_))
          exact g134 RS _ I1 1 hall hf h4 ht1 (Or.inl ⟨hr, rfl, hP, rfl⟩)
        · rw [am_b0 hr]
          exact hG2 [(134, [])] 100 93 _ _ _ _ (am_t rfl (g134 RS _ I1 0 hall hf h4 ht1 (Or.inr ⟨by simpa using hr, rfl, rfl⟩)))
      | succ m ih =>
        intro s D I1 hD hf h4 ht1 hP hR
        have hm := p_stone_26 (tn := tn) (tt := tt) (s := s) (D := D)
        obtain ⟨r, hr0⟩ : ∃ r, p_stone tn tt s D = r := ⟨_, rfl⟩
        have hR : (if r.1 = true then (if p_c tn tt r.2.1 = 44 then p_rep (p_stone tn tt) tn tt m (p_at tn tt r.2.1 + 1) r.2.2 else (true, r.2)) else (false, r.2)) = RS := by rw [← hr0]; exact hR
        rw [hr0] at h4 ht1 hP hm
        rw [hr0]
        by_cases hr : r.1 = true
        · have hP := hP hr
          have hw := hP.1.2.2.2.2.2.2.1
          have hm := hm hr
          have b11 : ¬ nI (r.2.2 26) = 255 := fun z => by
            have := (m_255 _ hw).mp ((nI_eq (b := 255) (by omega) (by omega)).mp z)
            omega
          rw [if_pos hr] at hR
          rw [am_b1 hr]
          obtain ⟨b1, b2, b3⟩ := p_at_spec (tt := tt) ht _ r.2.1 rfl ht1
          refine hG2 [(134, []), (126, []), (93, [])] 100 93 _ _ _ _ (am_f (by decide) (am_f (by rw [hP.2.2.2.2.2.1]; exact b11) (And.intro (rfl) (Exists.intro (tn) (Exists.intro (tt) (Exists.intro (r.2.1) (And.intro (hB) (And.intro (MT_PF hT hf) (And.intro (ht1) (And.intro (h4) (?_)))))))))))
          by_cases hc : p_c tn tt r.2.1 = 44
          · rw [if_pos hc] at hR
            have l1 : p_at tn tt r.2.1 < tn := p_at_lt (by rw [hc]; decide)
            refine am_nf hc ?_
            obtain ⟨s1, hs1⟩ : ∃ s1, s1 = p_at tn tt r.2.1 + 1 := ⟨_, rfl⟩
            show G2 126 [some (.ref 0), some (.int (1))] [] (am_ui (am_ui I1 0 4 (nI (p_at tn tt r.2.1))) 0 4 (am_ui I1 0 4 (nI (p_at tn tt r.2.1)) 0 4 + 1)) L
            rw [am_ui_ui, am_ui_e, nI_1, ← hs1]
            rw [← hs1] at hR
            refine hG2 [(93, [])] 100 126 _ _ _ _ (And.intro (rfl) (Exists.intro (tn) (Exists.intro (tt) (Exists.intro (s1) (Exists.intro (r.2.2) (And.intro (hB) (And.intro (MT_PF hT (MPF_tr hf MPF_4)) (And.intro (by omega) (And.intro (am_ui_e) (And.intro (PM_4 hP) (fun I2 f2 h42 ht2 hP2 => ?_)))))))))))
            exact ih s1 r.2.2 I2 (by omega) (MPF_tr hf (MPF_tr MPF_4 f2)) h42 ht2 hP2 hR
          · rw [if_neg hc] at hR
            refine am_nt hc ?_
            have e1 : RS.1 = true := by rw [← hR]
            have e2 : RS.2 = r.2 := by rw [← hR]
            exact g134 RS _ _ 1 hall (MPF_tr hf MPF_4) am_ui_e b2 (Or.inl ⟨e1, rfl, by rw [e2]; exact PM_4 hP, by rw [e2]; exact p_at_at ht ht1⟩)
        · rw [if_neg hr] at hR
          rw [am_b0 hr]
          have e1 : RS.1 = false := by rw [← hR]
          have e2 : RS.2 = r.2 := by rw [← hR]
          exact hG2 [(134, [])] 100 93 _ _ _ _ (am_t rfl (g134 RS _ I1 0 hall hf h4 ht1 (Or.inr ⟨e1, rfl, by rw [e2]⟩)))
    obtain ⟨RW, hRW⟩ : ∃ RW, RW = p_rep (p_way tn tt) tn tt 11 0 (g_0 0) := ⟨_, rfl⟩
    obtain ⟨RS, hRS⟩ : ∃ RS, RS = p_rep (p_stone tn tt) tn tt 7 (p_at tn tt RW.2.1 + 1) RW.2.2 := ⟨_, rfl⟩
    have hpa : p_all tn tt = if RW.1 = true then (if p_c tn tt RW.2.1 = 59 then (if RS.1 = true then (if p_c tn tt RS.2.1 = -1 then RS else (false, p_at tn tt RS.2.1, g_0 0)) else RS) else if p_c tn tt RW.2.1 = -1 then RW else (false, p_at tn tt RW.2.1, g_0 0)) else RW := by
      unfold p_all
      rw [← hRW, ← hRS]
    -- behind the ways
    have bad65 : ∀ (t : Nat) (I3 : am_I), MPF I I3 → I3 0 4 = nI t → t ≤ tn → RW.1 = false → t = RW.2.1 → G2 65 [some (.ref 0), some (.int (0))] [] I3 L := by
      intro t I3 hf h4 htn r0 rt
      refine hG2 [(134, [])] 100 65 _ _ _ _ (am_t rfl ?_)
      refine g134 RW t I3 0 ?_ hf h4 htn (Or.inr ⟨r0, rfl, rt⟩)
      rw [hpa, if_neg (by rw [r0]; decide), if_neg (by rw [r0]; decide)]
    have good65 : ∀ (t : Nat) (I3 : am_I), MPF I I3 → I3 0 4 = nI t → t ≤ tn → RW.1 = true → PM I3 RW.2.2 → RW.2.2 26 = 0 → p_at tn tt t = p_at tn tt RW.2.1 → G2 65 [some (.ref 0), some (.int (1))] [] I3 L := by
      intro t I3 hf h4 htn r1 hp h26 hat
      rw [if_pos r1] at hpa
      obtain ⟨b1, b2, b3⟩ := p_at_spec (tt := tt) ht _ t rfl htn
      refine hG2 [(134, []), (88, []), (93, [])] 100 65 _ _ _ _ (am_f (by decide) (And.intro (rfl) (Exists.intro (tn) (Exists.intro (tt) (Exists.intro (t) (And.intro (hB) (And.intro (MT_PF hT hf) (And.intro (htn) (And.intro (h4) (?_))))))))))
      rw [p_c_congr hat]
      by_cases hc : p_c tn tt RW.2.1 = 59
      · rw [if_pos hc] at hpa
        have l1 : p_at tn tt t < tn := p_at_lt (by rw [p_c_congr hat, hc]; decide)
        refine am_nf hc ?_
        obtain ⟨s1, hs1⟩ : ∃ s1, s1 = p_at tn tt t + 1 := ⟨_, rfl⟩
        show G2 88 [some (.ref 0), some (.int (1))] [] (am_ui (am_ui I3 0 4 (nI (p_at tn tt t))) 0 4 (am_ui I3 0 4 (nI (p_at tn tt t)) 0 4 + 1)) L
        rw [am_ui_ui, am_ui_e, nI_1, ← hs1]
        rw [← hat, ← hs1] at hRS
        refine hG2 [(93, [])] 100 88 _ _ _ _ (And.intro (rfl) (Exists.intro (tn) (Exists.intro (tt) (Exists.intro (s1) (Exists.intro (RW.2.2) (And.intro (hB) (And.intro (MT_PF hT (MPF_tr hf MPF_4)) (And.intro (by omega) (And.intro (am_ui_e) (And.intro (PM_4 hp) (fun I2 f2 h42 ht2 hP2 => ?_)))))))))))
        exact at93 RS hpa 7 s1 RW.2.2 I2 (by rw [h26]; rfl) (MPF_tr hf (MPF_tr MPF_4 f2)) h42 ht2 hP2 hRS.symm
      · rw [if_neg hc] at hpa
        refine am_nt hc ?_
        refine g134 RW _ _ 1 ?_ (MPF_tr hf MPF_4) am_ui_e b2 (Or.inl ⟨r1, rfl, PM_4 hp, by rw [p_at_at ht htn]; exact hat⟩)
        rw [hpa, if_pos r1]
    -- the ways
    have at25 : ∀ m s D (I1 : am_I), D 0 + m = 11 → D 26 = 0 → MPF I I1 → I1 0 4 = nI (p_way tn tt s D).2.1 → (p_way tn tt s D).2.1 ≤ tn → ((p_way tn tt s D).1 = true → PM I1 (p_way tn tt s D).2.2) → p_rep (p_way tn tt) tn tt m s D = RW → G2 25 [some (.ref 0), some (.int (am_b ((p_way tn tt s D).1 = true)))] [] I1 L := by
      intro m
      induction m with
      | zero =>
        intro s D I1 hD h26 hf h4 ht1 hP hR
        have hR : p_way tn tt s D = RW := hR
        have hm := p_way_0 (tn := tn) (tt := tt) (s := s) (D := D)
        have hm26 := p_way_26 (tn := tn) (tt := tt) (s := s) (D := D) (by omega)
        rw [hR] at h4 ht1 hP hm hm26
        rw [hR]
        by_cases hr : RW.1 = true
        · have hP := hP hr
          have hm := hm hr
          have b7 : I1 0 7 = nI 12 := by rw [hP.2.2.2.1, hm]; congr 1; omega
          rw [am_b1 hr]
          refine hG2 [(65, [])] 100 25 _ _ _ _ (am_f (by decide) (am_nt (by rw [b7]; decide) ?_))
          exact good65 _ I1 hf h4 ht1 hr hP (hm26.trans h26) rfl
        · rw [am_b0 hr]
          exact hG2 [(65, [])] 100 25 _ _ _ _ (am_t rfl (bad65 _ I1 hf h4 ht1 (by simpa using hr) rfl))
      | succ m ih =>
        intro s D I1 hD h26 hf h4 ht1 hP hR
        have hm := p_way_0 (tn := tn) (tt := tt) (s := s) (D := D)
        have hm26 := p_way_26 (tn := tn) (tt := tt) (s := s) (D := D) (by omega)
        obtain ⟨r, hr0⟩ : ∃ r, p_way tn tt s D = r := ⟨_, rfl⟩
        have hR : (if r.1 = true then (if p_c tn tt r.2.1 = 44 then p_rep (p_way tn tt) tn tt m (p_at tn tt r.2.1 + 1) r.2.2 else (true, r.2)) else (false, r.2)) = RW := by rw [← hr0]; exact hR
        rw [hr0] at h4 ht1 hP hm hm26
        rw [hr0]
        by_cases hr : r.1 = true
        · have hP := hP hr
          have hm := hm hr
          rw [if_pos hr] at hR
          rw [am_b1 hr]
          obtain ⟨b1, b2, b3⟩ := p_at_spec (tt := tt) ht _ r.2.1 rfl ht1
          refine hG2 [(65, []), (57, []), (25, [])] 100 25 _ _ _ _ (am_f (by decide) (am_nf (by rw [hP.2.2.2.1]; exact am_lt (show r.2.2 0 < 12 by omega) rfl) (And.intro (rfl) (Exists.intro (tn) (Exists.intro (tt) (Exists.intro (r.2.1) (And.intro (hB) (And.intro (MT_PF hT hf) (And.intro (ht1) (And.intro (h4) (?_)))))))))))
          by_cases hc : p_c tn tt r.2.1 = 44
          · rw [if_pos hc] at hR
            have l1 : p_at tn tt r.2.1 < tn := p_at_lt (by rw [hc]; decide)
            refine am_nf hc ?_
            obtain ⟨s1, hs1⟩ : ∃ s1, s1 = p_at tn tt r.2.1 + 1 := ⟨_, rfl⟩
            show G2 57 [some (.ref 0), some (.int (1))] [] (am_ui (am_ui I1 0 4 (nI (p_at tn tt r.2.1))) 0 4 (am_ui I1 0 4 (nI (p_at tn tt r.2.1)) 0 4 + 1)) L
            rw [am_ui_ui, am_ui_e, nI_1, ← hs1]
            rw [← hs1] at hR
            refine hG2 [(25, [])] 100 57 _ _ _ _ (And.intro (rfl) (Exists.intro (tn) (Exists.intro (tt) (Exists.intro (s1) (Exists.intro (r.2.2) (And.intro (hB) (And.intro (MT_PF hT (MPF_tr hf MPF_4)) (And.intro (by omega) (And.intro (am_ui_e) (And.intro (PM_4 hP) (And.intro (by omega) (fun I2 f2 h42 ht2 hP2 => ?_))))))))))))
            exact ih s1 r.2.2 I2 (by omega) (hm26.trans h26) (MPF_tr hf (MPF_tr MPF_4 f2)) h42 ht2 hP2 hR
          · rw [if_neg hc] at hR
            refine am_nt hc ?_
            have e1 : RW.1 = true := by rw [← hR]
            have e2 : RW.2 = r.2 := by rw [← hR]
            exact good65 _ _ (MPF_tr hf MPF_4) am_ui_e b2 e1 (by rw [e2]; exact PM_4 hP) (by rw [e2]; exact hm26.trans h26) (by rw [e2]; exact p_at_at ht ht1)
        · rw [if_neg hr] at hR
          rw [am_b0 hr]
          have e1 : RW.1 = false := by rw [← hR]
          have e2 : RW.2 = r.2 := by rw [← hR]
          exact hG2 [(65, [])] 100 25 _ _ _ _ (am_t rfl (bad65 _ I1 hf h4 ht1 e1 (by rw [e2])))
    refine hG2 [(20, [])] 100 0 _ _ _ _ ?_
    show G2 20 [some (.ref 0), none] [] (am_ui (am_ui (am_ui (am_ui I 0 4 0) 0 7 0) 0 8 0) 0 11 0) L
    have f0 : MPF I (am_ui (am_ui (am_ui (am_ui I 0 4 0) 0 7 0) 0 8 0) 0 11 0) := ⟨fun a a0 _ _ _ _ => by rw [am_ui_o a0, am_ui_o a0, am_ui_o a0, am_ui_o a0], fun k k4 k7 k8 k11 => by rw [am_uk k11, am_uk k8, am_uk k7, am_uk k4]⟩
    have p0 : PM (am_ui (am_ui (am_ui (am_ui I 0 4 0) 0 7 0) 0 8 0) 0 11 0) (g_0 0) := by
      refine ⟨WG_0 (by omega), rfl, rfl, ?_, ?_, ?_, fun k hk => absurd hk (Nat.not_lt_zero k), fun p _ hb => ?_⟩
      · rw [am_uk (by omega), am_uk (by omega), am_ui_e]; rfl
      · rw [am_uk (by omega), am_ui_e]; rfl
      · rw [am_ui_e]; rfl
      · rw [show g_0 0 26 = 0 from rfl, Nat.zero_testBit] at hb; cases hb
    have h04 : am_ui (am_ui (am_ui (am_ui I 0 4 0) 0 7 0) 0 8 0) 0 11 0 0 4 = nI 0 := by
      rw [am_uk (by omega), am_uk (by omega), am_uk (by omega), am_ui_e]; rfl
    generalize am_ui (am_ui (am_ui (am_ui I 0 4 0) 0 7 0) 0 8 0) 0 11 0 = I0 at f0 p0 h04 ⊢
    refine hG2 [(25, [])] 100 20 _ _ _ _ (And.intro (rfl) (Exists.intro (tn) (Exists.intro (tt) (Exists.intro (0) (Exists.intro (g_0 0) (And.intro (hB) (And.intro (MT_PF hT f0) (And.intro (Nat.zero_le _) (And.intro (h04) (And.intro (p0) (And.intro (by decide) (fun I2 f2 h42 ht2 hP2 => ?_))))))))))))
    exact at25 11 0 (g_0 0) I2 rfl rfl (MPF_tr f0 f2) h42 ht2 hP2 hRW.symm
  · exact h.elim
