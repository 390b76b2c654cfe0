/-! A PASS READ, in words; THE CLASS: a stone read -/
def g_sto (D : Nat → Nat) (p q k : Nat) : Nat → Nat := g_put (g_put (g_put D (27 + p) q) (35 + p) k) 26 (g_set (D 26) p)
theorem g_sto_r (D : Nat → Nat) (p q k i : Nat) : g_sto D p q k i = if i = 26 then g_set (D 26) p else if i = 35 + p then k else if i = 27 + p then q else D i := rfl
theorem PD_sto {I : am_I} {L : am_J} {D : Nat → Nat} (h : PD I L D) {x y k : Nat} (hx : x < 8) (hy : y < 8) (hk : k < D 0) : PD (am_ui (am_ui (am_ui I 17 x (nI y)) 18 x (nI k)) 13 8 (I 13 8 ||| ((1 : Int32) <<< (nI x &&& 31)))) L (g_sto D x y k) := by
  have c8 := (PD_cell h).2.2.1
  obtain ⟨w, h43, h44, r5, r6, r7, r8, r9, rw2, rj, rs, rn, rc⟩ := h
  have h12 := w.1
  have e : ∀ i, i < 26 → g_sto D x y k i = D i := fun i hi => by
    rw [g_sto_r, if_neg (by omega), if_neg (by omega), if_neg (by omega)]
  have e43 : g_sto D x y k 43 = D 43 := by rw [g_sto_r, if_neg (by omega), if_neg (by omega), if_neg (by omega)]
  have e44 : g_sto D x y k 44 = D 44 := by rw [g_sto_r, if_neg (by omega), if_neg (by omega), if_neg (by omega)]
  have e26 : g_sto D x y k 26 = g_set (D 26) x := by rw [g_sto_r, if_pos rfl]
  have hs : ∀ q, q < 8 → (g_sto D x y k 26).testBit q = true → (q = x ∧ g_sto D x y k (27 + q) = y ∧ g_sto D x y k (35 + q) = k) ∨ (¬ q = x ∧ (D 26).testBit q = true ∧ g_sto D x y k (27 + q) = D (27 + q) ∧ g_sto D x y k (35 + q) = D (35 + q)) := fun q hq hb => by
    by_cases z : q = x
    · left
      subst z
      exact ⟨rfl, by rw [g_sto_r, if_neg (by omega), if_neg (by omega), if_pos rfl], by rw [g_sto_r, if_neg (by omega), if_pos rfl]⟩
    · right
      rw [e26, g_set_t] at hb
      simp only [z, decide_false, Bool.or_false] at hb
      exact ⟨z, hb, by rw [g_sto_r, if_neg (by omega), if_neg (by omega), if_neg (by omega)], by rw [g_sto_r, if_neg (by omega), if_neg (by omega), if_neg (by omega)]⟩
  refine ⟨WG_of w e (by rw [e26]; exact g_set_lt (n := 8) w.2.2.2.2.2.2.1 hx) (fun q hq hb => ?_) (by rw [e43]; exact w.2.2.2.2.2.2.2.2.1) (by rw [e44]; exact w.2.2.2.2.2.2.2.2.2.1) (fun j hj => w.2.2.2.2.2.2.2.2.2.2 j (by rw [← e44]; exact hj)), e43.trans h43, e44.trans h44, ?_⟩
  · rcases hs q hq hb with ⟨_, z2, z3⟩ | ⟨_, z1, z2, z3⟩
    · rw [z2, z3]; exact ⟨hy, hk⟩
    · rw [z2, z3]; exact w.2.2.2.2.2.2.2.1 q hq z1
  have f9 : ∀ j, j ≠ 8 → am_ui (am_ui (am_ui (am_ui I 17 x (nI y)) 18 x (nI k)) 13 8 (I 13 8 ||| ((1 : Int32) <<< (nI x &&& 31)))) 13 9 0 13 j = am_ui I 13 9 0 13 j := fun j hj => by
    simp [am_ui_r, hj]
  have fo : ∀ a b : Nat, a ≠ 13 → a ≠ 17 → a ≠ 18 → am_ui (am_ui (am_ui (am_ui I 17 x (nI y)) 18 x (nI k)) 13 8 (I 13 8 ||| ((1 : Int32) <<< (nI x &&& 31)))) 13 9 0 a b = am_ui I 13 9 0 a b := fun a b h1 h2 h3 => by
    simp [am_ui_r, h1, h2, h3]
  refine ⟨?_, ?_, ?_, ?_, ?_, fun j hj => ?_, fun a b ha hb => ?_, fun q hq hb => ?_, fun a b ha hb => ?_, fun a b ha hb => ?_⟩
  · rw [f9 5 (by omega), e 0 (by omega)]; exact r5
  · rw [f9 6 (by omega), e 25 (by omega)]; exact r6
  · rw [f9 7 (by omega), e44]; exact r7
  · rw [e26, ← g_set_I _ (by omega), ← c8]
    simp [am_ui_r]
  · rw [f9 9 (by omega), e43]; exact r9
  · rw [e 0 (by omega)] at hj
    rw [fo _ _ (show 13 + 1 ≠ 13 by omega) (by omega) (by omega), fo _ _ (show 13 + 2 ≠ 13 by omega) (by omega) (by omega), e (1 + j) (by omega), e (13 + j) (by omega)]
    exact rw2 j hj
  · rw [fo _ _ (show 13 + 3 ≠ 13 by omega) (by omega) (by omega), g_wy_congr h12 (fun i hi => e i (by omega))]
    exact rj a b ha hb
  · rcases hs q hq hb with ⟨z1, z2, z3⟩ | ⟨z, z1, z2, z3⟩
    · rw [z2, z3, z1]
      constructor <;> simp [am_ui_r]
    · rw [z2, z3]
      have h1 : am_ui (am_ui (am_ui (am_ui I 17 x (nI y)) 18 x (nI k)) 13 8 (I 13 8 ||| ((1 : Int32) <<< (nI x &&& 31)))) 13 9 0 (13 + 4) q = am_ui I 13 9 0 (13 + 4) q := by simp [am_ui_r, z]
      have h2 : am_ui (am_ui (am_ui (am_ui I 17 x (nI y)) 18 x (nI k)) 13 8 (I 13 8 ||| ((1 : Int32) <<< (nI x &&& 31)))) 13 9 0 (13 + 5) q = am_ui I 13 9 0 (13 + 5) q := by simp [am_ui_r, z]
      rw [h1, h2]
      exact rs q hq z1
  · rw [g_E_congr h12 (fun i hi => e i (by omega))]
    exact rn a b ha hb
  · rw [g_E_congr h12 (fun i hi => e i (by omega)), e 25 (by omega)]
    exact rc a b ha hb
def p_stone (tn : Nat) (tt : Nat → Nat) (s : Nat) (D : Nat → Nat) : Bool × Nat × (Nat → Nat) :=
  if p_dg tn tt s = -1 ∨ (D 26).testBit (p_dg tn tt s).toNatClampNeg = true then (false, p_at tn tt s, D)
  else if ¬ p_c tn tt (p_at tn tt s + 1) = 60 then (false, p_at tn tt (p_at tn tt s + 1), D)
  else if p_dg tn tt (p_at tn tt (p_at tn tt s + 1) + 1) = -1 ∨ g_wy D (p_dg tn tt s).toNatClampNeg (p_dg tn tt (p_at tn tt (p_at tn tt s + 1) + 1)).toNatClampNeg = 0 then (false, p_at tn tt (p_at tn tt (p_at tn tt s + 1) + 1), D)
  else if ¬ p_c tn tt (p_at tn tt (p_at tn tt (p_at tn tt s + 1) + 1) + 1) = 58 then (false, p_at tn tt (p_at tn tt (p_at tn tt (p_at tn tt s + 1) + 1) + 1), D)
  else if ¬ (0 ≤ p_c tn tt (p_at tn tt (p_at tn tt (p_at tn tt (p_at tn tt s + 1) + 1) + 1) + 1) - 97 ∧ p_c tn tt (p_at tn tt (p_at tn tt (p_at tn tt (p_at tn tt s + 1) + 1) + 1) + 1) - 97 < nI (D 0)) then (false, p_at tn tt (p_at tn tt (p_at tn tt (p_at tn tt (p_at tn tt s + 1) + 1) + 1) + 1), D)
  else (true, p_at tn tt (p_at tn tt (p_at tn tt (p_at tn tt (p_at tn tt s + 1) + 1) + 1) + 1) + 1, g_sto D (p_dg tn tt s).toNatClampNeg (p_dg tn tt (p_at tn tt (p_at tn tt s + 1) + 1)).toNatClampNeg (p_c tn tt (p_at tn tt (p_at tn tt (p_at tn tt (p_at tn tt s + 1) + 1) + 1) + 1) - 97).toNatClampNeg)
theorem PD_has {I : am_I} {L : am_J} {D : Nat → Nat} (h : PD I L D) {x : Nat} (hx : x < 8) : am_b (f_bit (I 13 8) (nI x) = 1) = am_b ((D 26).testBit x = true) := by
  rw [(PD_cell h).2.2.1, f_bit_nI _ (by omega)]
  exact am_bc am_bo
def T_TP_takeStone : am_Sp := fun vs I L post => match vs with
  | [.ref o, .ref r] => o = 19 ∧ r = 13 ∧ ∃ tn tt s D, p_B tn tt ∧ TP I tn tt ∧ s ≤ tn ∧ I 19 2 = nI s ∧ PD I L D ∧ ∀ (v : Int32) (t : Nat) (I2 : am_I) (L2 : am_J), TP I2 tn tt → t ≤ tn → I2 19 2 = nI t → PF I I2 L L2 → p_R tn tt (p_stone tn tt s D) v t I2 L2 → post (some (.int v)) I2 L2
  | _ => False
def sp_TP_takeStone : Nat → am_Sp := fun i => match i with
  | 35 => T_TP_sign
  | 42 => T_TP_take
  | 49 => T_TP_digit
  | 52 => T_RD_isJoined
  | 67 => T_RD_hasStone
  | 71 => T_RD_isWay
  | 74 => T_RD_setStone
  | _ => am_no
set_option maxRecDepth 100000 in
set_option maxHeartbeats 4000000 in
theorem ok_TP_takeStone : am_Ok am_SX sp_TP_takeStone true k_TP_takeStone 5 T_TP_takeStone := by
  intro vs I L post h
  unfold T_TP_takeStone at h
  split at h
  · rename_i o r
    obtain ⟨rfl, rfl, tn, tt, s, D, hB, hT, hs, h2, hD, h⟩ := h
    refine ⟨Nat.le_of_ble_eq_true rfl, fun G2 hG2 => ?_⟩
    have ht := hB.1
    have h12 := hD.1.1
    obtain ⟨a1, a2, a3⟩ := p_at_spec (tt := tt) ht _ s rfl hs
    have bad : ∀ t, t ≤ tn → (p_stone tn tt s D).1 = false → t = (p_stone tn tt s D).2.1 → post (some (.int 0)) (am_ui I 19 2 (nI t)) L := fun t h1 h3 h4 => h 0 t _ _ (TP_19 hT) h1 am_ui_e PF_19 (Or.inr (Or.inl ⟨h3, rfl, h4⟩))
    refine hG2 [] 100 0 _ _ _ _ (And.intro (rfl) (Exists.intro (tn) (Exists.intro (tt) (Exists.intro (s) (And.intro (hB) (And.intro (hT) (And.intro (hs) (And.intro (h2) (?_)))))))))
    rcases p_dg_cases (tn := tn) (tt := tt) s with e1 | ⟨x, hx, e1, l1⟩
    · rw [e1]
      have e : p_stone tn tt s D = (false, p_at tn tt s, D) := by unfold p_stone; rw [if_pos (Or.inl e1)]
      exact am_t (by decide) (And.intro (Or.inl rfl) (bad _ a2 (by rw [e]) (by rw [e])))
    · have n1 : ¬ p_dg tn tt s = -1 := by rw [e1]; exact fun z => nI_pos (n := x) (by omega) (by rw [z]; decide)
      have cx : (p_dg tn tt s).toNatClampNeg = x := by rw [e1]; exact nI_clamp (by omega)
      rw [e1]
      refine am_f (nI_pos (by omega)) (And.intro (Or.inr (Or.inr rfl)) ?_)
      rw [PD_has (PD_19 hD) hx]
      by_cases hst : (D 26).testBit x = true
      · have e : p_stone tn tt s D = (false, p_at tn tt s, D) := by unfold p_stone; rw [if_pos (Or.inr (by rw [cx]; exact hst))]
        exact am_f (am_bp hst) (And.intro (Or.inl rfl) (bad _ a2 (by rw [e]) (by rw [e])))
      · have m1 : ¬ (p_dg tn tt s = -1 ∨ (D 26).testBit (p_dg tn tt s).toNatClampNeg = true) := by rw [cx]; rintro (z | z); exact n1 z; exact hst z
        refine am_t (am_bn hst) ?_
        obtain ⟨b1, b2, b3⟩ := p_at_spec (tt := tt) ht _ (p_at tn tt s + 1) rfl l1
        show 19 = 19 ∧ ∃ tn tt s, p_B tn tt ∧ TP (am_ui (am_ui I 19 2 (nI (p_at _ _ _))) 19 2 (am_ui I 19 2 (nI (p_at _ _ _)) 19 2 + 1)) tn tt ∧ s ≤ tn ∧ _ ∧ _
        rw [am_ui_e, am_ui_ui, nI_1]
        refine And.intro (rfl) (Exists.intro (tn) (Exists.intro (tt) (Exists.intro (p_at tn tt s + 1) (And.intro (hB) (And.intro (TP_19 hT) (And.intro (l1) (And.intro (am_ui_e) (And.intro (fun h60 => ?_) (fun h60 => ?_)))))))))
        rotate_left
        · rw [am_ui_ui]
          have e : p_stone tn tt s D = (false, p_at tn tt (p_at tn tt s + 1), D) := by unfold p_stone; rw [if_neg m1, if_pos h60]
          exact am_nf rfl (And.intro (Or.inl rfl) (bad _ b2 (by rw [e]) (by rw [e])))
        · rw [am_ui_ui]
          have l2 : p_at tn tt (p_at tn tt s + 1) < tn := p_at_lt (by rw [h60]; decide)
          obtain ⟨c1, c2, c3⟩ := p_at_spec (tt := tt) ht _ (p_at tn tt (p_at tn tt s + 1) + 1) rfl l2
          refine am_nt (by decide) (And.intro (rfl) (Exists.intro (tn) (Exists.intro (tt) (Exists.intro (p_at tn tt (p_at tn tt s + 1) + 1) (And.intro (hB) (And.intro (TP_19 hT) (And.intro (l2) (And.intro (am_ui_e) (?_)))))))))
          rw [am_ui_ui]
          refine And.intro (Or.inr (Or.inr rfl)) ?_
          rcases p_dg_cases (tn := tn) (tt := tt) (p_at tn tt (p_at tn tt s + 1) + 1) with e2 | ⟨y, hy, e2, l3⟩
          · rw [e2]
            have e : p_stone tn tt s D = (false, p_at tn tt (p_at tn tt (p_at tn tt s + 1) + 1), D) := by unfold p_stone; rw [if_neg m1, if_neg (fun z => z h60), if_pos (Or.inl e2)]
            refine am_nf (am_bn (fun z => z ?_)) (And.intro (Or.inl rfl) (bad _ c2 (by rw [e]) (by rw [e])))
            unfold f_wb
            rw [if_neg (fun z => absurd z.2.1 (by decide))]
          · have n2 : ¬ p_dg tn tt (p_at tn tt (p_at tn tt s + 1) + 1) = -1 := by rw [e2]; exact fun z => nI_pos (n := y) (by omega) (by rw [z]; decide)
            have cy : (p_dg tn tt (p_at tn tt (p_at tn tt s + 1) + 1)).toNatClampNeg = y := by rw [e2]; exact nI_clamp (by omega)
            rw [e2]
            have hle := g_wy_le D x y
            have ew := (PD_cell (PD_19 (v := nI (p_at tn tt (p_at tn tt (p_at tn tt s + 1) + 1))) hD)).2.2.2 x y hx hy
            rw [ew]
            by_cases hw : g_wy D x y = 0
            · have e : p_stone tn tt s D = (false, p_at tn tt (p_at tn tt (p_at tn tt s + 1) + 1), D) := by unfold p_stone; rw [if_neg m1, if_neg (fun z => z h60), if_pos (Or.inr (by rw [cx, cy]; exact hw))]
              exact am_nf (am_bn (by rw [nI_m1 (by omega)]; exact fun z => z hw)) (And.intro (Or.inl rfl) (bad _ c2 (by rw [e]) (by rw [e])))
            · have m2 : ¬ (p_dg tn tt (p_at tn tt (p_at tn tt s + 1) + 1) = -1 ∨ g_wy D (p_dg tn tt s).toNatClampNeg (p_dg tn tt (p_at tn tt (p_at tn tt s + 1) + 1)).toNatClampNeg = 0) := by rw [cx, cy]; rintro (z | z); exact n2 z; exact hw z
              refine am_nt (am_bp (by rw [nI_m1 (by omega)]; exact hw)) ?_
              obtain ⟨d1, d2, d3⟩ := p_at_spec (tt := tt) ht _ (p_at tn tt (p_at tn tt (p_at tn tt s + 1) + 1) + 1) rfl l3
              show 19 = 19 ∧ ∃ tn tt s, p_B tn tt ∧ TP (am_ui (am_ui I 19 2 (nI (p_at _ _ _))) 19 2 (am_ui I 19 2 (nI (p_at _ _ _)) 19 2 + 1)) tn tt ∧ s ≤ tn ∧ _ ∧ _
              rw [am_ui_e, am_ui_ui, nI_1]
              refine And.intro (rfl) (Exists.intro (tn) (Exists.intro (tt) (Exists.intro (p_at tn tt (p_at tn tt (p_at tn tt s + 1) + 1) + 1) (And.intro (hB) (And.intro (TP_19 hT) (And.intro (l3) (And.intro (am_ui_e) (And.intro (fun h58 => ?_) (fun h58 => ?_)))))))))
              rotate_left
              · rw [am_ui_ui]
                have e : p_stone tn tt s D = (false, p_at tn tt (p_at tn tt (p_at tn tt (p_at tn tt s + 1) + 1) + 1), D) := by unfold p_stone; rw [if_neg m1, if_neg (fun z => z h60), if_neg m2, if_pos h58]
                exact am_nf rfl (And.intro (Or.inl rfl) (bad _ d2 (by rw [e]) (by rw [e])))
              · rw [am_ui_ui]
                have l4 : p_at tn tt (p_at tn tt (p_at tn tt (p_at tn tt s + 1) + 1) + 1) < tn := p_at_lt (by rw [h58]; decide)
                obtain ⟨f1, f2, f3⟩ := p_at_spec (tt := tt) ht _ (p_at tn tt (p_at tn tt (p_at tn tt (p_at tn tt s + 1) + 1) + 1) + 1) rfl l4
                refine am_nt (by decide) (And.intro (rfl) (Exists.intro (tn) (Exists.intro (tt) (Exists.intro (p_at tn tt (p_at tn tt (p_at tn tt (p_at tn tt s + 1) + 1) + 1) + 1) (And.intro (hB) (And.intro (TP_19 hT) (And.intro (l4) (And.intro (am_ui_e) (?_)))))))))
                rw [am_ui_ui]
                refine And.intro (Or.inr (Or.inr rfl)) ?_
                rw [(PD_cell (PD_19 hD)).1]
                by_cases hwy : 0 ≤ p_c tn tt (p_at tn tt (p_at tn tt (p_at tn tt (p_at tn tt s + 1) + 1) + 1) + 1) - 97 ∧ p_c tn tt (p_at tn tt (p_at tn tt (p_at tn tt (p_at tn tt s + 1) + 1) + 1) + 1) - 97 < nI (D 0)
                · have l5 : p_at tn tt (p_at tn tt (p_at tn tt (p_at tn tt (p_at tn tt s + 1) + 1) + 1) + 1) < tn := p_at_lt (fun z => by rw [z] at hwy; exact absurd hwy.1 (by decide))
                  refine am_nt (am_bp hwy) ?_
                  have e : p_stone tn tt s D = (true, p_at tn tt (p_at tn tt (p_at tn tt (p_at tn tt (p_at tn tt s + 1) + 1) + 1) + 1) + 1, g_sto D x y (p_c tn tt (p_at tn tt (p_at tn tt (p_at tn tt (p_at tn tt s + 1) + 1) + 1) + 1) - 97).toNatClampNeg) := by unfold p_stone; rw [if_neg m1, if_neg (fun z => z h60), if_neg m2, if_neg (fun z => z h58), if_neg (fun z => z hwy), cx, cy]
                  obtain ⟨k, hk, ek⟩ := am_rng (n := D 0) (by omega) hwy.1 hwy.2
                  have ck : (p_c tn tt (p_at tn tt (p_at tn tt (p_at tn tt (p_at tn tt s + 1) + 1) + 1) + 1) - 97).toNatClampNeg = k := by rw [ek]; exact nI_clamp (by omega)
                  rw [ck] at e
                  rw [ek]
                  refine And.intro (Or.inr (Or.inr rfl)) (And.intro (am_pl8 hx) (And.intro (Or.inr rfl) ?_))
                  show post (some (.int 1)) (am_ui (am_ui (am_ui (am_ui (am_ui I 19 2 (nI (p_at tn tt (p_at tn tt (p_at tn tt (p_at tn tt (p_at tn tt s + 1) + 1) + 1) + 1)))) 19 2 (am_ui I 19 2 (nI (p_at tn tt (p_at tn tt (p_at tn tt (p_at tn tt (p_at tn tt s + 1) + 1) + 1) + 1))) 19 2 + 1)) 17 (nI x).toNatClampNeg (nI y)) 18 (nI x).toNatClampNeg (nI k)) 13 8 (am_ui (am_ui I 19 2 (nI (p_at tn tt (p_at tn tt (p_at tn tt (p_at tn tt (p_at tn tt s + 1) + 1) + 1) + 1)))) 19 2 (am_ui I 19 2 (nI (p_at tn tt (p_at tn tt (p_at tn tt (p_at tn tt (p_at tn tt s + 1) + 1) + 1) + 1))) 19 2 + 1) 13 8 ||| ((1 : Int32) <<< (nI x &&& 31)))) L
                  rw [am_ui_e, am_ui_ui, nI_1, nI_clamp (by omega)]
                  have hPD := PD_sto (PD_19 (v := nI (p_at tn tt (p_at tn tt (p_at tn tt (p_at tn tt (p_at tn tt s + 1) + 1) + 1) + 1) + 1)) hD) hx hy hk
                  generalize p_at tn tt (p_at tn tt (p_at tn tt (p_at tn tt (p_at tn tt s + 1) + 1) + 1) + 1) = s5 at *
                  have hX : ∀ a : Nat, a ≠ 13 → a ≠ 17 → a ≠ 18 → am_ui (am_ui (am_ui (am_ui I 19 2 (nI (s5 + 1))) 17 x (nI y)) 18 x (nI k)) 13 8 (am_ui I 19 2 (nI (s5 + 1)) 13 8 ||| ((1 : Int32) <<< (nI x &&& 31))) a = am_ui I 19 2 (nI (s5 + 1)) a := fun a h1 h3 h4 => by rw [am_ui_o h1, am_ui_o h4, am_ui_o h3]
                  refine h 1 (s5 + 1) _ _ (TP_fr (TP_19 (v := nI (s5 + 1)) hT) (by rw [hX 19 (by omega) (by omega) (by omega)]) (hX 20 (by omega) (by omega) (by omega))) l5 (by rw [hX 19 (by omega) (by omega) (by omega)]; exact am_ui_e) (PF_tr PF_19 ⟨fun a ha => hX a (by omega) (by omega) (by omega), by rw [hX 19 (by omega) (by omega) (by omega)], fun _ _ => rfl⟩) (Or.inl ⟨by rw [e], rfl, by rw [e]; exact hPD, by rw [e]⟩)
                · have e : p_stone tn tt s D = (false, p_at tn tt (p_at tn tt (p_at tn tt (p_at tn tt (p_at tn tt s + 1) + 1) + 1) + 1), D) := by unfold p_stone; rw [if_neg m1, if_neg (fun z => z h60), if_neg m2, if_neg (fun z => z h58), if_pos hwy]
                  exact am_nf (am_bn hwy) (And.intro (Or.inl rfl) (bad _ f2 (by rw [e]) (by rw [e])))
  · exact h.elim
