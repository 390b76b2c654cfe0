/-! A PASS READ, in words; THE CLASS: a way read -/
theorem am_ui_ui {I : am_I} {o k : Nat} {x y : Int32} : am_ui (am_ui I o k x) o k y = am_ui I o k y := by
  funext a b
  simp only [am_ui_r]
  split <;> rfl
theorem am_ui_row {I X : am_I} {o k a : Nat} {x : Int32} (h : X a = I a) : am_ui X o k x a = am_ui I o k x a := by
  funext b
  simp only [am_ui_r, h]
theorem f_join_9 {I : am_I} {r : Nat} {a b d x : Int32} : f_joinI (am_ui I r 9 x) r a b d = am_ui (f_joinI I r a b d) r 9 x := by
  have e5 : am_ui I r 9 x r 5 = I r 5 := am_uk (by omega)
  have e6 : am_ui I r 9 x r 6 = I r 6 := am_uk (by omega)
  unfold f_joinI
  rw [e5, e6]
  by_cases hd : d = 0
  · simp only [hd, if_true]
    funext p q
    by_cases h9 : p = r ∧ q = 9
    · obtain ⟨rfl, rfl⟩ := h9; simp [am_ui_r]
    · simp [am_ui_r, h9]
  · simp only [hd, if_false]
    funext p q
    by_cases h9 : p = r ∧ q = 9
    · obtain ⟨rfl, rfl⟩ := h9; simp [am_ui_r]
    · simp [am_ui_r, h9]
/-- the draft holds D -/
def PD (I : am_I) (L : am_J) (D : Nat → Nat) : Prop := WG D ∧ D 43 = 0 ∧ D 44 = 0 ∧ RC (am_ui I 13 9 0) L 13 D
def PF (I I2 : am_I) (L L2 : am_J) : Prop := (∀ a : Nat, (a < 13 ∨ 19 < a) → I2 a = I a) ∧ I2 19 1 = I 19 1 ∧ ∀ a : Nat, a ≠ 13 → L2 a = L a
theorem PF_rfl {I : am_I} {L : am_J} : PF I I L L := ⟨fun _ _ => rfl, rfl, fun _ _ => rfl⟩
theorem PF_tr {I I2 I3 : am_I} {L L2 L3 : am_J} (h : PF I I2 L L2) (h2 : PF I2 I3 L2 L3) : PF I I3 L L3 := ⟨fun a x => (h2.1 a x).trans (h.1 a x), h2.2.1.trans h.2.1, fun a x => (h2.2.2 a x).trans (h.2.2 a x)⟩
theorem PF_19 {I : am_I} {L : am_J} {v : Int32} : PF I (am_ui I 19 2 v) L L := ⟨fun a h => am_ui_o (by omega), am_uk (by omega), fun _ _ => rfl⟩
theorem TP_19 {I : am_I} {tn : Nat} {tt : Nat → Nat} {v : Int32} (h : TP I tn tt) : TP (am_ui I 19 2 v) tn tt := TP_fr h (am_uk (by omega)) (am_ui_o (by omega))
theorem TP_PF {I I2 : am_I} {L L2 : am_J} {tn : Nat} {tt : Nat → Nat} (h : TP I tn tt) (hf : PF I I2 L L2) : TP I2 tn tt := TP_fr h hf.2.1 (hf.1 20 (by omega))
theorem PD_fr {I I2 : am_I} {L L2 : am_J} {D : Nat → Nat} (h : PD I L D) (hI : ∀ a : Nat, 13 ≤ a → a ≤ 18 → I2 a = I a) (hL : L2 13 = L 13) : PD I2 L2 D := ⟨h.1, h.2.1, h.2.2.1, RC_fr h.2.2.2 (fun a h1 h2 => am_ui_row (hI a h1 (by omega))) hL⟩
theorem PD_19 {I : am_I} {L : am_J} {D : Nat → Nat} {v : Int32} (h : PD I L D) : PD (am_ui I 19 2 v) L D := PD_fr h (fun a _ _ => am_ui_o (by omega)) rfl
theorem PD_cell {I : am_I} {L : am_J} {D : Nat → Nat} (h : PD I L D) : I 13 5 = nI (D 0) ∧ I 13 6 = nI (D 25) ∧ I 13 8 = nI (D 26) ∧ ∀ a b, a < 8 → b < 8 → f_wb I 13 (nI a) (nI b) = nI (g_wy D a b) - 1 := by
  obtain ⟨_, _, _, hR⟩ := h
  refine ⟨(am_uk (by omega)).symm.trans hR.1, (am_uk (by omega)).symm.trans hR.2.1, (am_uk (by omega)).symm.trans hR.2.2.2.1, fun a b ha hb => ?_⟩
  have := f_wb_RC hR ha hb
  have e : f_wb (am_ui I 13 9 0) 13 (nI a) (nI b) = f_wb I 13 (nI a) (nI b) := by
    unfold f_wb
    rw [am_uo (show (13 + 3 : Nat) ≠ 13 by omega)]
  rw [← e]; exact this
theorem PD_join {I : am_I} {L : am_J} {D : Nat → Nat} (h : PD I L D) {x y : Nat} {d : Int32} (hx : x < 8) (hy : y < 8) (hxy : x ≠ y) (hw : g_wy D x y = 0) (h12 : D 0 < 12) (hd : ¬ d = 0 → g_pc (D 25) 12 < 6) : PD (f_joinI I 13 (nI x) (nI y) d) (f_joinL L 13 (nI x) (nI y) d) (g_add D x y (!decide (d = 0))) := by
  obtain ⟨w, h43, h44, hR⟩ := h
  have eo : ∀ i, 25 < i → g_add D x y (!decide (d = 0)) i = D i := fun i hi => by
    unfold g_add
    rw [if_neg (by omega), if_neg (by omega), if_neg (by omega), if_neg (by omega)]
  refine ⟨WG_add w hx hy hxy hw h12 (fun z => hd (by simpa using z)), (eo 43 (by omega)).trans h43, (eo 44 (by omega)).trans h44, ?_⟩
  rw [← f_join_9]
  exact RC_join w hR hx hy hxy hw h12
theorem p_dg_cases {tn : Nat} {tt : Nat → Nat} (s : Nat) : p_dg tn tt s = -1 ∨ ∃ x, x < 8 ∧ p_dg tn tt s = nI x ∧ p_at tn tt s < tn := by
  unfold p_dg
  split
  · rename_i q
    obtain ⟨x, hx, e⟩ := am_rng (n := 8) (by omega) q.1 q.2
    refine Or.inr ⟨x, hx, e, p_at_lt (fun z => ?_)⟩
    rw [z] at q
    exact absurd q.1 (by decide)
  · exact Or.inl rfl
/-- a way is read: whether it may stand; where it ends, or the fault is; the road with it -/
def p_way (tn : Nat) (tt : Nat → Nat) (s : Nat) (D : Nat → Nat) : Bool × Nat × (Nat → Nat) :=
  if p_dg tn tt s = -1 then (false, p_at tn tt s, D)
  else if p_dg tn tt (p_at tn tt s + 1) = -1 ∨ p_dg tn tt s = p_dg tn tt (p_at tn tt s + 1) ∨ ¬ g_wy D (p_dg tn tt s).toNatClampNeg (p_dg tn tt (p_at tn tt s + 1)).toNatClampNeg = 0 then (false, p_at tn tt (p_at tn tt s + 1), D)
  else if p_c tn tt (p_at tn tt (p_at tn tt s + 1) + 1) = 63 then (if g_pc (D 25) 12 = 6 then (false, p_at tn tt (p_at tn tt (p_at tn tt s + 1) + 1), D) else (true, p_at tn tt (p_at tn tt (p_at tn tt s + 1) + 1) + 1, g_add D (p_dg tn tt s).toNatClampNeg (p_dg tn tt (p_at tn tt s + 1)).toNatClampNeg true))
  else (true, p_at tn tt (p_at tn tt (p_at tn tt s + 1) + 1), g_add D (p_dg tn tt s).toNatClampNeg (p_dg tn tt (p_at tn tt s + 1)).toNatClampNeg false)
/-- what the class makes of a part of the text -/
def p_R (tn : Nat) (tt : Nat → Nat) (r : Bool × Nat × (Nat → Nat)) (v : Int32) (t : Nat) (I2 : am_I) (L2 : am_J) : Prop := (r.1 = true ∧ v = 1 ∧ PD I2 L2 r.2.2 ∧ p_at tn tt t = p_at tn tt r.2.1) ∨ (r.1 = false ∧ v = 0 ∧ t = r.2.1) ∨ (r.1 = false ∧ v = 1 ∧ p_at tn tt t = r.2.1 ∧ p_c tn tt t = 63)
def T_TP_takeWay : am_Sp := fun vs I L post => match vs with
  | [.ref o, .ref r] => o = 19 ∧ r = 13 ∧ ∃ tn tt s D, p_B tn tt ∧ TP I tn tt ∧ s ≤ tn ∧ I 19 2 = nI s ∧ PD I L D ∧ D 0 < 12 ∧ ∀ (v : Int32) (t : Nat) (I2 : am_I) (L2 : am_J), TP I2 tn tt → t ≤ tn → I2 19 2 = nI t → PF I I2 L L2 → p_R tn tt (p_way tn tt s D) v t I2 L2 → post (some (.int v)) I2 L2
  | _ => False
def sp_TP_takeWay : Nat → am_Sp := fun i => match i with
  | 42 => T_TP_take
  | 49 => T_TP_digit
  | 52 => T_RD_isJoined
  | 56 => T_RD_hasRoom
  | 60 => T_RD_join
  | _ => am_no
set_option maxRecDepth 100000 in
set_option maxHeartbeats 4000000 in
theorem ok_TP_takeWay : am_Ok am_SX sp_TP_takeWay true k_TP_takeWay 5 T_TP_takeWay := by
  intro vs I L post h
  unfold T_TP_takeWay at h
  split at h
  · rename_i o r
    obtain ⟨rfl, rfl, tn, tt, s, D, hB, hT, hs, h2, hD, h6, h⟩ := h
    refine ⟨Nat.le_of_ble_eq_true rfl, fun G2 hG2 => ?_⟩
    have ht := hB.1
    obtain ⟨c5, c6, c8, cw⟩ := PD_cell hD
    have hpc : f_bc (nI (D 25)) = nI (g_pc (D 25) 12) := f_bc_nI _ (by have := hD.1.2.2.2.1; omega)
    have hp6 := hD.1.2.2.2.2.2.1
    obtain ⟨a1, a2, a3⟩ := p_at_spec (tt := tt) ht _ s rfl hs
    refine hG2 [(78, [])] 100 0 _ _ _ _ (And.intro (rfl) (Exists.intro (tn) (Exists.intro (tt) (Exists.intro (s) (And.intro (hB) (And.intro (hT) (And.intro (hs) (And.intro (h2) (?_)))))))))
    rcases p_dg_cases (tn := tn) (tt := tt) s with e1 | ⟨x, hx, e1, l1⟩
    · rw [e1]
      refine am_nf (by decide) (And.intro (Or.inl rfl) (h 0 _ _ _ (TP_19 hT) a2 am_ui_e PF_19 ?_))
      unfold p_way
      rw [if_pos e1]
      exact Or.inr (Or.inl ⟨rfl, rfl, rfl⟩)
    · have n1 : ¬ p_dg tn tt s = -1 := by rw [e1]; exact fun z => absurd z (fun z => nI_pos (n := x) (by omega) (by rw [z]; decide))
      rw [e1]
      refine am_nt (nI_pos (by omega)) ?_
      obtain ⟨b1, b2, b3⟩ := p_at_spec (tt := tt) ht _ (p_at tn tt s + 1) rfl l1
      show 19 = 19 ∧ ∃ tn tt s, p_B tn tt ∧ TP (am_ui (am_ui I 19 2 (nI (p_at _ _ _))) 19 2 (am_ui I 19 2 (nI (p_at _ _ _)) 19 2 + 1)) tn tt ∧ s ≤ tn ∧ _ ∧ _
      rw [am_ui_e, am_ui_ui, nI_1]
      refine And.intro (rfl) (Exists.intro (tn) (Exists.intro (tt) (Exists.intro (p_at tn tt s + 1) (And.intro (hB) (And.intro (TP_19 hT) (And.intro (l1) (And.intro (am_ui_e) (?_))))))))
      rw [am_ui_ui]
      rcases p_dg_cases (tn := tn) (tt := tt) (p_at tn tt s + 1) with e2 | ⟨y, hy, e2, l2⟩
      · rw [e2]
        refine am_t (by decide) (And.intro (Or.inl rfl) (h 0 _ _ _ (TP_19 hT) b2 am_ui_e PF_19 ?_))
        unfold p_way
        rw [if_neg n1, if_pos (Or.inl e2)]
        exact Or.inr (Or.inl ⟨rfl, rfl, rfl⟩)
      · have n2 : ¬ p_dg tn tt (p_at tn tt s + 1) = -1 := by rw [e2]; exact fun z => absurd z (fun z => nI_pos (n := y) (by omega) (by rw [z]; decide))
        rw [e2]
        refine am_f (nI_pos (by omega)) ?_
        have cx : (p_dg tn tt s).toNatClampNeg = x := by rw [e1]; exact nI_clamp (by omega)
        have cy : (p_dg tn tt (p_at tn tt s + 1)).toNatClampNeg = y := by rw [e2]; exact nI_clamp (by omega)
        by_cases hxy : x = y
        · refine am_t (by rw [hxy]) (And.intro (Or.inl rfl) (h 0 _ _ _ (TP_19 hT) b2 am_ui_e PF_19 ?_))
          unfold p_way
          rw [if_neg n1, if_pos (Or.inr (Or.inl (by rw [e1, e2, hxy])))]
          exact Or.inr (Or.inl ⟨rfl, rfl, rfl⟩)
        · have nxy : ¬ nI x = nI y := fun z => hxy ((nI_eq (by omega) (by omega)).mp z)
          refine am_f nxy (And.intro (Or.inr (Or.inr rfl)) ?_)
          have hle := g_wy_le D x y
          have h12 := hD.1.1
          have ew := (PD_cell (PD_19 (v := nI (p_at tn tt (p_at tn tt s + 1))) hD)).2.2.2 x y hx hy
          by_cases hw : g_wy D x y = 0
          · refine am_t (am_bn (by rw [ew, nI_m1 (by omega)]; exact fun q => q hw)) (And.intro (Or.inr (Or.inr rfl)) ?_)
            have hpw : p_way tn tt s D = if p_c tn tt (p_at tn tt (p_at tn tt s + 1) + 1) = 63 then (if g_pc (D 25) 12 = 6 then (false, p_at tn tt (p_at tn tt (p_at tn tt s + 1) + 1), D) else (true, p_at tn tt (p_at tn tt (p_at tn tt s + 1) + 1) + 1, g_add D x y true)) else (true, p_at tn tt (p_at tn tt (p_at tn tt s + 1) + 1), g_add D x y false) := by
              unfold p_way
              rw [if_neg n1, if_neg (by rintro (q | q | q); exact n2 q; exact nxy (by rw [← e1, ← e2]; exact q); exact q (by rw [cx, cy]; exact hw)), cx, cy]
            show (am_b (am_ui (am_ui I 19 2 (nI (p_at tn tt (p_at tn tt s + 1)))) 19 2 (am_ui I 19 2 (nI (p_at tn tt (p_at tn tt s + 1))) 19 2 + 1) 13 5 < 12 ∧ ((1 : Int32) = 0 ∨ f_bc (am_ui (am_ui I 19 2 (nI (p_at tn tt (p_at tn tt s + 1)))) 19 2 (am_ui I 19 2 (nI (p_at tn tt (p_at tn tt s + 1))) 19 2 + 1) 13 6) < 6)) = 0 → _) ∧ _
            rw [am_ui_e, am_ui_ui, nI_1, am_uo (show (13 : Nat) ≠ 19 by omega), am_uo (show (13 : Nat) ≠ 19 by omega), c5, c6, hpc]
            obtain ⟨d1, d2, d3⟩ := p_at_spec (tt := tt) ht _ (p_at tn tt (p_at tn tt s + 1) + 1) rfl l2
            -- the way joins the road
            have joi : ∀ (t : Nat) (dd : Int32), t ≤ tn → (dd = 0 ∨ dd = 1) → (¬ dd = 0 → g_pc (D 25) 12 < 6) → (∀ (I2 : am_I) (L2 : am_J), PD I2 L2 (g_add D x y (!decide (dd = 0))) → p_R tn tt (p_way tn tt s D) 1 t I2 L2) → G2 78 [some (.ref 19), some (.ref 13), some (.int (nI x)), some (.int (nI y)), none] [.int dd] (am_ui I 19 2 (nI t)) L := by
              intro t dd htn hdd hd6 hR
              have hD2 := PD_join (PD_19 (v := nI t) hD) hx hy hxy hw h6 hd6
              have c52 : am_ui I 19 2 (nI t) 13 5 = nI (D 0) := (am_uo (by omega)).trans c5
              have hfin : post (some (.int 1)) (f_joinI (am_ui I 19 2 (nI t)) 13 (nI x) (nI y) dd) (f_joinL L 13 (nI x) (nI y) dd) := by
                have hfr := f_join_fr (I := am_ui I 19 2 (nI t)) (L := L) (r := 13) (a := nI x) (b := nI y) (d := dd)
                have hpf : PF (am_ui I 19 2 (nI t)) (f_joinI (am_ui I 19 2 (nI t)) 13 (nI x) (nI y) dd) L (f_joinL L 13 (nI x) (nI y) dd) := ⟨fun a ha => hfr.1 a (show a ≠ 13 by omega) (show a ≠ 14 by omega) (show a ≠ 15 by omega) (show a ≠ 16 by omega), by rw [hfr.1 19 (by omega) (by omega) (by omega) (by omega)], fun a ha => hfr.2 a ha⟩
                exact h 1 t _ _ (TP_PF (TP_19 hT) hpf) htn (by rw [hfr.1 19 (by omega) (by omega) (by omega) (by omega)]; exact am_ui_e) (PF_tr PF_19 hpf) (hR _ _ hD2)
              refine hG2 [] 100 78 _ _ _ _ (And.intro (Or.inr (Or.inr rfl)) (And.intro (am_pl8 hx) (And.intro (am_pl8 hy) (And.intro ?_ ?_))))
              · rw [c52]; exact ⟨nI_pos' (by omega), am_lt h6 rfl⟩
              · rw [c52]
                exact am_f (fun z => nI_pos (n := D 0) (by omega) (by rw [z]; decide)) (And.intro (Or.inr rfl) hfin)
            by_cases hrm : g_pc (D 25) 12 = 6
            · refine am_t (am_bn ?_) ?_
              · rintro ⟨_, q | q⟩
                · exact absurd q (by decide)
                · rw [hrm] at q; exact absurd q (by decide)
              · refine joi (p_at tn tt (p_at tn tt s + 1) + 1) 0 l2 (Or.inl rfl) (fun q => absurd rfl q) (fun I2 L2 hD2 => ?_)
                rw [hpw]
                by_cases h63 : p_c tn tt (p_at tn tt (p_at tn tt s + 1) + 1) = 63
                · rw [if_pos h63, if_pos hrm]
                  exact Or.inr (Or.inr ⟨rfl, rfl, rfl, h63⟩)
                · rw [if_neg h63]
                  exact Or.inl ⟨rfl, rfl, hD2, (p_at_at ht l2).symm⟩
            · refine am_f (am_bp ⟨am_lt h6 rfl, Or.inr (am_lt (show g_pc (D 25) 12 < 6 by omega) rfl)⟩) ?_
              refine And.intro (rfl) (Exists.intro (tn) (Exists.intro (tt) (Exists.intro (p_at tn tt (p_at tn tt s + 1) + 1) (And.intro (hB) (And.intro (TP_19 hT) (And.intro (l2) (And.intro (am_ui_e) (And.intro (fun h63 => ?_) (fun h63 => ?_)))))))))
              · rw [am_ui_ui]
                refine am_f (by decide) ?_
                have l3 : p_at tn tt (p_at tn tt (p_at tn tt s + 1) + 1) < tn := p_at_lt (by rw [h63]; decide)
                refine joi _ 1 l3 (Or.inr rfl) (fun _ => by omega) (fun I2 L2 hD2 => ?_)
                rw [hpw, if_pos h63, if_neg hrm]
                exact Or.inl ⟨rfl, rfl, hD2, rfl⟩
              · rw [am_ui_ui]
                refine am_t rfl ?_
                refine joi _ 0 d2 (Or.inl rfl) (fun q => absurd rfl q) (fun I2 L2 hD2 => ?_)
                rw [hpw, if_neg h63]
                exact Or.inl ⟨rfl, rfl, hD2, rfl⟩
          · refine am_f (am_bp (by rw [ew, nI_m1 (by omega)]; exact hw)) (And.intro (Or.inl rfl) (h 0 _ _ _ (TP_19 hT) b2 am_ui_e PF_19 ?_))
            unfold p_way
            rw [if_neg n1, if_pos (Or.inr (Or.inr (by rw [cx, cy]; exact hw)))]
            exact Or.inr (Or.inl ⟨rfl, rfl, rfl⟩)
  · exact h.elim
