/-! THE CLASS: which snows may have been -/
def T_RP_leaves : am_Sp := fun vs I L post => match vs with
  | [.ref o, .int x, .int y, .int z, .ref r, .int u, .int w] => o = 0 ∧ ∃ A kind f snow, ∃ s ii nn : Nat, kind < 4 ∧ f < 8 ∧ s < 4 ∧ r = (26 + 2 * s : Nat) ∧ nn ≤ 24 ∧ CR I L A ∧ ¬ A.2.2.2.2.2.1 s = -1 ∧ ii + nn ≤ A.2.2.2.2.2.2.1 s ∧ x = nI kind ∧ y = nI f ∧ z = nI snow ∧ u = nI ii ∧ w = nI nn ∧ ∀ (I2 : am_I) (L2 : am_J), CR I2 L2 A → post (some (.int (am_b (g_lv A.1 kind snow f nn (fun k => A.2.2.2.2.2.2.2 s (ii + k)) = true)))) I2 L2
  | _ => False
def sp_RP_leaves : Nat → am_Sp := fun i => match i with
  | 227 => T_JN_begin
  | 231 => T_JN_goOn
  | 235 => T_SH_itemAt
  | _ => am_no
set_option maxRecDepth 100000 in
set_option maxHeartbeats 4000000 in
theorem ok_RP_leaves : am_Ok am_SX sp_RP_leaves true k_RP_leaves 8 T_RP_leaves := by
  intro vs I L post h
  unfold T_RP_leaves at h
  split at h
  · rename_i o x y z r u w
    obtain ⟨rfl, A, kind, f, snow, s, ii, nn, hk4, hf8, hs4, rfl, hn24, hC, hl, hz, rfl, rfl, rfl, rfl, rfl, h⟩ := h
    refine ⟨Nat.le_of_ble_eq_true rfl, fun G2 hG2 => ?_⟩
    obtain ⟨G, K, hk, tn, tt, ln, sz, it⟩ := A
    dsimp only at hl hz h
    obtain ⟨hV, hR, hKr, hk7, hT, ⟨V, hS⟩, hSh⟩ := id hC
    have hX : JX G kind (G 26) f := JX_of hV.1 hk4 hf8
    have hTs := g_T_spec (snow := snow) hX
    have hz24 := (hV.2.2.2.2 s hs4).2
    have hT : ∀ (I2 : am_I) (L2 : am_J), CR I2 L2 (G, K, hk, tn, tt, ln, sz, it) → g_lv G kind snow f nn (fun k => it s (ii + k)) = true → post (some (.int 1)) I2 L2 := fun I2 L2 hC2 z => by
      have := h I2 L2 hC2
      rw [am_b1 z] at this; exact this
    have hF : ∀ (I2 : am_I) (L2 : am_J), CR I2 L2 (G, K, hk, tn, tt, ln, sz, it) → ¬ g_lv G kind snow f nn (fun k => it s (ii + k)) = true → post (some (.int 0)) I2 L2 := fun I2 L2 hC2 z => by
      have := h I2 L2 hC2
      rw [am_b0 z] at this; exact this
    clear h
    rcases (show s = 0 ∨ s = 1 ∨ s = 2 ∨ s = 3 by omega) with rfl | rfl | rfl | rfl
    · have hq : 26 + 2 * 0 = 26 := rfl
      have loop : ∀ d k (I1 : am_I) (L1 : am_J), nn - k = d → k ≤ nn → JS I1 L1 G kind snow (G 26) f k → CR I1 L1 (G, K, hk, tn, tt, ln, sz, it) → (∀ j, j < k → (nI (g_S G kind snow (G 26) f (j + 1)).1).toInt64 = it 0 (ii + j)) → G2 24 [some (.ref 0), some (.int (nI kind)), some (.int (nI f)), some (.int (nI snow)), some (.ref 26), some (.int (nI ii)), some (.int (nI nn)), some (.int (nI k))] [] I1 L1 := by
        intro d
        induction d with
        | zero =>
          intro k I1 L1 hd hk1 hj hC1 hm
          have e : k = nn := by omega
          subst e
          refine hG2 [] 100 24 _ _ _ _ (am_nt (nI_nlt (Nat.le_refl k) (by omega)) (And.intro (Or.inr rfl) (hT I1 L1 hC1 (g_lv_iff.mpr ⟨?_, hm⟩))))
          rcases Nat.lt_or_ge (g_T G kind snow (G 26) f) k with z | z
          · exact absurd (hj.2.2.2.2.2.2.2.2.2.2 _ z) hTs.2.1
          · exact z
        | succ d ih =>
          intro k I1 L1 hd hk1 hj hC1 hm
          have hR1 := hC1.2.1
          refine hG2 [(24, [])] 100 24 _ _ _ _ (am_nf (nI_lt (by omega) (by omega)) (And.intro (rfl) (And.intro (rfl) (Exists.intro (G) (Exists.intro (kind) (Exists.intro (snow) (Exists.intro (G 26) (Exists.intro (f) (Exists.intro (k) (Exists.intro (1) (And.intro (hX) (And.intro (hR1) (And.intro (rfl) (And.intro (by omega) (And.intro (hj) (fun i2 I3 L3 hi1 hi2 hi3 hj2 hf2 => ?_))))))))))))))))
          have hC3 : CR I3 L3 (G, K, hk, tn, tt, ln, sz, it) := CR_FJ hC1 hf2 ⟨_, hj2.2.2.2.2.2.2.2.2.2.1⟩
          have j4 : I3 21 4 = nI (g_S G kind snow (G 26) f i2).1 := hj2.2.2.2.1
          have j6 : I3 21 6 = nI i2 := hj2.2.2.2.2.1
          have jp := hj2.2.2.2.2.2.2.2.2.2.2
          show (¬ I3 21 6 = nI k + 1 → _) ∧ (I3 21 6 = nI k + 1 → _)
          rw [j6, nI_1]
          by_cases e : i2 = k + 1
          · subst e
            refine am_nf rfl ?_
            have hi : nI ii + nI k = nI (ii + k) := nI_add ii k
            have hb : f_hasB I3 26 (nI (ii + k)) 1 = 1 := by
              have q : I3 26 2 = nI (sz 0) := (hC3.2.2.2.2.2.2 0 (by omega)).2.1 hl
              rw [am_has hz24 q]
              have e1 : (1 : Int32).toInt = 1 := rfl
              rw [nI_toInt (by omega)]
              exact am_b1 ⟨by omega, by omega, by omega⟩
            have q2 : L3 27 (ii + k) = it 0 (ii + k) := (hC3.2.2.2.2.2.2 0 (by omega)).2.2 _ (by omega)
            show am_isS 26 ∧ ((f_hasB I3 26 (nI ii + nI k) 1 = 1 → vp_in (nI ii + nI k) 24) ∧ _)
            rw [hi]
            refine And.intro (Or.inl rfl) (And.intro (fun _ => am_vin (by omega) rfl) ?_)
            show (lg_cmp (I3 21 4).toInt64 (if f_hasB I3 26 (nI (ii + k)) 1 = 1 then L3 27 (nI (ii + k)).toNatClampNeg else -4) = 0 → _) ∧ (¬ lg_cmp (I3 21 4).toInt64 (if f_hasB I3 26 (nI (ii + k)) 1 = 1 then L3 27 (nI (ii + k)).toNatClampNeg else -4) = 0 → _)
            rw [if_pos hb, nI_clamp (by omega), q2, j4, am_cmp_eq]
            by_cases e2 : (nI (g_S G kind snow (G 26) f (k + 1)).1).toInt64 = it 0 (ii + k)
            · refine am_t e2 ?_
              show G2 24 [some (.ref 0), some (.int (nI kind)), some (.int (nI f)), some (.int (nI snow)), some (.ref 26), some (.int (nI ii)), some (.int (nI nn)), some (.int (nI k + 1))] [] I3 L3
              rw [nI_1]
              refine ih (k + 1) I3 L3 (by omega) (by omega) hj2 hC3 (fun j hj3 => ?_)
              rcases Nat.lt_or_ge j k with z | z
              · exact hm j z
              · rw [show j = k by omega]; exact e2
            · exact am_f e2 (And.intro (Or.inl rfl) (hF I3 L3 hC3 (fun z => e2 ((g_lv_iff.mp z).2 k (by omega)))))
          · have e3 : i2 = k := by omega
            subst e3
            refine am_nt (fun z => e ((nI_eq (by omega) (by omega)).mp z)) (And.intro (Or.inl rfl) (hF I3 L3 hC3 (fun z => ?_)))
            have hen : ¬ g_end G (g_S G kind snow (G 26) f) i2 = 3 := by
              rcases hi3 with q | q
              · omega
              · exact q
            have := g_T_of hX hen jp
            have := (g_lv_iff.mp z).1
            omega
      refine hG2 [(24, [])] 100 0 _ _ _ _ (And.intro (rfl) (And.intro (rfl) (Exists.intro (G) (Exists.intro (kind) (Exists.intro (snow) (Exists.intro (G 26) (Exists.intro (f) (Exists.intro (V) (And.intro (hX) (And.intro (hR) (And.intro (rfl) (And.intro (rfl) (And.intro (rfl) (And.intro (hR.2.2.2.1) (And.intro (hS) (fun I1 L1 hj1 hf1 => ?_))))))))))))))))
      exact loop nn 0 I1 L1 (by omega) (by omega) hj1 (CR_FJ hC hf1 ⟨_, hj1.2.2.2.2.2.2.2.2.2.1⟩) (fun j hj => by omega)
    · have hq : 26 + 2 * 1 = 28 := rfl
      have loop : ∀ d k (I1 : am_I) (L1 : am_J), nn - k = d → k ≤ nn → JS I1 L1 G kind snow (G 26) f k → CR I1 L1 (G, K, hk, tn, tt, ln, sz, it) → (∀ j, j < k → (nI (g_S G kind snow (G 26) f (j + 1)).1).toInt64 = it 1 (ii + j)) → G2 24 [some (.ref 0), some (.int (nI kind)), some (.int (nI f)), some (.int (nI snow)), some (.ref 28), some (.int (nI ii)), some (.int (nI nn)), some (.int (nI k))] [] I1 L1 := by
        intro d
        induction d with
        | zero =>
          intro k I1 L1 hd hk1 hj hC1 hm
          have e : k = nn := by omega
          subst e
          refine hG2 [] 100 24 _ _ _ _ (am_nt (nI_nlt (Nat.le_refl k) (by omega)) (And.intro (Or.inr rfl) (hT I1 L1 hC1 (g_lv_iff.mpr ⟨?_, hm⟩))))
          rcases Nat.lt_or_ge (g_T G kind snow (G 26) f) k with z | z
          · exact absurd (hj.2.2.2.2.2.2.2.2.2.2 _ z) hTs.2.1
          · exact z
        | succ d ih =>
          intro k I1 L1 hd hk1 hj hC1 hm
          have hR1 := hC1.2.1
          refine hG2 [(24, [])] 100 24 _ _ _ _ (am_nf (nI_lt (by omega) (by omega)) (And.intro (rfl) (And.intro (rfl) (Exists.intro (G) (Exists.intro (kind) (Exists.intro (snow) (Exists.intro (G 26) (Exists.intro (f) (Exists.intro (k) (Exists.intro (1) (And.intro (hX) (And.intro (hR1) (And.intro (rfl) (And.intro (by omega) (And.intro (hj) (fun i2 I3 L3 hi1 hi2 hi3 hj2 hf2 => ?_))))))))))))))))
          have hC3 : CR I3 L3 (G, K, hk, tn, tt, ln, sz, it) := CR_FJ hC1 hf2 ⟨_, hj2.2.2.2.2.2.2.2.2.2.1⟩
          have j4 : I3 21 4 = nI (g_S G kind snow (G 26) f i2).1 := hj2.2.2.2.1
          have j6 : I3 21 6 = nI i2 := hj2.2.2.2.2.1
          have jp := hj2.2.2.2.2.2.2.2.2.2.2
          show (¬ I3 21 6 = nI k + 1 → _) ∧ (I3 21 6 = nI k + 1 → _)
          rw [j6, nI_1]
          by_cases e : i2 = k + 1
          · subst e
            refine am_nf rfl ?_
            have hi : nI ii + nI k = nI (ii + k) := nI_add ii k
            have hb : f_hasB I3 28 (nI (ii + k)) 1 = 1 := by
              have q : I3 28 2 = nI (sz 1) := (hC3.2.2.2.2.2.2 1 (by omega)).2.1 hl
              rw [am_has hz24 q]
              have e1 : (1 : Int32).toInt = 1 := rfl
              rw [nI_toInt (by omega)]
              exact am_b1 ⟨by omega, by omega, by omega⟩
            have q2 : L3 29 (ii + k) = it 1 (ii + k) := (hC3.2.2.2.2.2.2 1 (by omega)).2.2 _ (by omega)
            show am_isS 28 ∧ ((f_hasB I3 28 (nI ii + nI k) 1 = 1 → vp_in (nI ii + nI k) 24) ∧ _)
            rw [hi]
            refine And.intro (Or.inr (Or.inl rfl)) (And.intro (fun _ => am_vin (by omega) rfl) ?_)
            show (lg_cmp (I3 21 4).toInt64 (if f_hasB I3 28 (nI (ii + k)) 1 = 1 then L3 29 (nI (ii + k)).toNatClampNeg else -4) = 0 → _) ∧ (¬ lg_cmp (I3 21 4).toInt64 (if f_hasB I3 28 (nI (ii + k)) 1 = 1 then L3 29 (nI (ii + k)).toNatClampNeg else -4) = 0 → _)
            rw [if_pos hb, nI_clamp (by omega), q2, j4, am_cmp_eq]
            by_cases e2 : (nI (g_S G kind snow (G 26) f (k + 1)).1).toInt64 = it 1 (ii + k)
            · refine am_t e2 ?_
              show G2 24 [some (.ref 0), some (.int (nI kind)), some (.int (nI f)), some (.int (nI snow)), some (.ref 28), some (.int (nI ii)), some (.int (nI nn)), some (.int (nI k + 1))] [] I3 L3
              rw [nI_1]
              refine ih (k + 1) I3 L3 (by omega) (by omega) hj2 hC3 (fun j hj3 => ?_)
              rcases Nat.lt_or_ge j k with z | z
              · exact hm j z
              · rw [show j = k by omega]; exact e2
            · exact am_f e2 (And.intro (Or.inl rfl) (hF I3 L3 hC3 (fun z => e2 ((g_lv_iff.mp z).2 k (by omega)))))
          · have e3 : i2 = k := by omega
            subst e3
            refine am_nt (fun z => e ((nI_eq (by omega) (by omega)).mp z)) (And.intro (Or.inl rfl) (hF I3 L3 hC3 (fun z => ?_)))
            have hen : ¬ g_end G (g_S G kind snow (G 26) f) i2 = 3 := by
              rcases hi3 with q | q
              · omega
              · exact q
            have := g_T_of hX hen jp
            have := (g_lv_iff.mp z).1
            omega
      refine hG2 [(24, [])] 100 0 _ _ _ _ (And.intro (rfl) (And.intro (rfl) (Exists.intro (G) (Exists.intro (kind) (Exists.intro (snow) (Exists.intro (G 26) (Exists.intro (f) (Exists.intro (V) (And.intro (hX) (And.intro (hR) (And.intro (rfl) (And.intro (rfl) (And.intro (rfl) (And.intro (hR.2.2.2.1) (And.intro (hS) (fun I1 L1 hj1 hf1 => ?_))))))))))))))))
      exact loop nn 0 I1 L1 (by omega) (by omega) hj1 (CR_FJ hC hf1 ⟨_, hj1.2.2.2.2.2.2.2.2.2.1⟩) (fun j hj => by omega)
    · have hq : 26 + 2 * 2 = 30 := rfl
      have loop : ∀ d k (I1 : am_I) (L1 : am_J), nn - k = d → k ≤ nn → JS I1 L1 G kind snow (G 26) f k → CR I1 L1 (G, K, hk, tn, tt, ln, sz, it) → (∀ j, j < k → (nI (g_S G kind snow (G 26) f (j + 1)).1).toInt64 = it 2 (ii + j)) → G2 24 [some (.ref 0), some (.int (nI kind)), some (.int (nI f)), some (.int (nI snow)), some (.ref 30), some (.int (nI ii)), some (.int (nI nn)), some (.int (nI k))] [] I1 L1 := by
        intro d
        induction d with
        | zero =>
          intro k I1 L1 hd hk1 hj hC1 hm
          have e : k = nn := by omega
          subst e
          refine hG2 [] 100 24 _ _ _ _ (am_nt (nI_nlt (Nat.le_refl k) (by omega)) (And.intro (Or.inr rfl) (hT I1 L1 hC1 (g_lv_iff.mpr ⟨?_, hm⟩))))
          rcases Nat.lt_or_ge (g_T G kind snow (G 26) f) k with z | z
          · exact absurd (hj.2.2.2.2.2.2.2.2.2.2 _ z) hTs.2.1
          · exact z
        | succ d ih =>
          intro k I1 L1 hd hk1 hj hC1 hm
          have hR1 := hC1.2.1
          refine hG2 [(24, [])] 100 24 _ _ _ _ (am_nf (nI_lt (by omega) (by omega)) (And.intro (rfl) (And.intro (rfl) (Exists.intro (G) (Exists.intro (kind) (Exists.intro (snow) (Exists.intro (G 26) (Exists.intro (f) (Exists.intro (k) (Exists.intro (1) (And.intro (hX) (And.intro (hR1) (And.intro (rfl) (And.intro (by omega) (And.intro (hj) (fun i2 I3 L3 hi1 hi2 hi3 hj2 hf2 => ?_))))))))))))))))
          have hC3 : CR I3 L3 (G, K, hk, tn, tt, ln, sz, it) := CR_FJ hC1 hf2 ⟨_, hj2.2.2.2.2.2.2.2.2.2.1⟩
          have j4 : I3 21 4 = nI (g_S G kind snow (G 26) f i2).1 := hj2.2.2.2.1
          have j6 : I3 21 6 = nI i2 := hj2.2.2.2.2.1
          have jp := hj2.2.2.2.2.2.2.2.2.2.2
          show (¬ I3 21 6 = nI k + 1 → _) ∧ (I3 21 6 = nI k + 1 → _)
          rw [j6, nI_1]
          by_cases e : i2 = k + 1
          · subst e
            refine am_nf rfl ?_
            have hi : nI ii + nI k = nI (ii + k) := nI_add ii k
            have hb : f_hasB I3 30 (nI (ii + k)) 1 = 1 := by
              have q : I3 30 2 = nI (sz 2) := (hC3.2.2.2.2.2.2 2 (by omega)).2.1 hl
              rw [am_has hz24 q]
              have e1 : (1 : Int32).toInt = 1 := rfl
              rw [nI_toInt (by omega)]
              exact am_b1 ⟨by omega, by omega, by omega⟩
            have q2 : L3 31 (ii + k) = it 2 (ii + k) := (hC3.2.2.2.2.2.2 2 (by omega)).2.2 _ (by omega)
            show am_isS 30 ∧ ((f_hasB I3 30 (nI ii + nI k) 1 = 1 → vp_in (nI ii + nI k) 24) ∧ _)
            rw [hi]
            refine And.intro (Or.inr (Or.inr (Or.inl rfl))) (And.intro (fun _ => am_vin (by omega) rfl) ?_)
            show (lg_cmp (I3 21 4).toInt64 (if f_hasB I3 30 (nI (ii + k)) 1 = 1 then L3 31 (nI (ii + k)).toNatClampNeg else -4) = 0 → _) ∧ (¬ lg_cmp (I3 21 4).toInt64 (if f_hasB I3 30 (nI (ii + k)) 1 = 1 then L3 31 (nI (ii + k)).toNatClampNeg else -4) = 0 → _)
            rw [if_pos hb, nI_clamp (by omega), q2, j4, am_cmp_eq]
            by_cases e2 : (nI (g_S G kind snow (G 26) f (k + 1)).1).toInt64 = it 2 (ii + k)
            · refine am_t e2 ?_
              show G2 24 [some (.ref 0), some (.int (nI kind)), some (.int (nI f)), some (.int (nI snow)), some (.ref 30), some (.int (nI ii)), some (.int (nI nn)), some (.int (nI k + 1))] [] I3 L3
              rw [nI_1]
              refine ih (k + 1) I3 L3 (by omega) (by omega) hj2 hC3 (fun j hj3 => ?_)
              rcases Nat.lt_or_ge j k with z | z
              · exact hm j z
              · rw [show j = k by omega]; exact e2
            · exact am_f e2 (And.intro (Or.inl rfl) (hF I3 L3 hC3 (fun z => e2 ((g_lv_iff.mp z).2 k (by omega)))))
          · have e3 : i2 = k := by omega
            subst e3
            refine am_nt (fun z => e ((nI_eq (by omega) (by omega)).mp z)) (And.intro (Or.inl rfl) (hF I3 L3 hC3 (fun z => ?_)))
            have hen : ¬ g_end G (g_S G kind snow (G 26) f) i2 = 3 := by
              rcases hi3 with q | q
              · omega
              · exact q
            have := g_T_of hX hen jp
            have := (g_lv_iff.mp z).1
            omega
      refine hG2 [(24, [])] 100 0 _ _ _ _ (And.intro (rfl) (And.intro (rfl) (Exists.intro (G) (Exists.intro (kind) (Exists.intro (snow) (Exists.intro (G 26) (Exists.intro (f) (Exists.intro (V) (And.intro (hX) (And.intro (hR) (And.intro (rfl) (And.intro (rfl) (And.intro (rfl) (And.intro (hR.2.2.2.1) (And.intro (hS) (fun I1 L1 hj1 hf1 => ?_))))))))))))))))
      exact loop nn 0 I1 L1 (by omega) (by omega) hj1 (CR_FJ hC hf1 ⟨_, hj1.2.2.2.2.2.2.2.2.2.1⟩) (fun j hj => by omega)
    · have hq : 26 + 2 * 3 = 32 := rfl
      have loop : ∀ d k (I1 : am_I) (L1 : am_J), nn - k = d → k ≤ nn → JS I1 L1 G kind snow (G 26) f k → CR I1 L1 (G, K, hk, tn, tt, ln, sz, it) → (∀ j, j < k → (nI (g_S G kind snow (G 26) f (j + 1)).1).toInt64 = it 3 (ii + j)) → G2 24 [some (.ref 0), some (.int (nI kind)), some (.int (nI f)), some (.int (nI snow)), some (.ref 32), some (.int (nI ii)), some (.int (nI nn)), some (.int (nI k))] [] I1 L1 := by
        intro d
        induction d with
        | zero =>
          intro k I1 L1 hd hk1 hj hC1 hm
          have e : k = nn := by omega
          subst e
          refine hG2 [] 100 24 _ _ _ _ (am_nt (nI_nlt (Nat.le_refl k) (by omega)) (And.intro (Or.inr rfl) (hT I1 L1 hC1 (g_lv_iff.mpr ⟨?_, hm⟩))))
          rcases Nat.lt_or_ge (g_T G kind snow (G 26) f) k with z | z
          · exact absurd (hj.2.2.2.2.2.2.2.2.2.2 _ z) hTs.2.1
          · exact z
        | succ d ih =>
          intro k I1 L1 hd hk1 hj hC1 hm
          have hR1 := hC1.2.1
          refine hG2 [(24, [])] 100 24 _ _ _ _ (am_nf (nI_lt (by omega) (by omega)) (And.intro (rfl) (And.intro (rfl) (Exists.intro (G) (Exists.intro (kind) (Exists.intro (snow) (Exists.intro (G 26) (Exists.intro (f) (Exists.intro (k) (Exists.intro (1) (And.intro (hX) (And.intro (hR1) (And.intro (rfl) (And.intro (by omega) (And.intro (hj) (fun i2 I3 L3 hi1 hi2 hi3 hj2 hf2 => ?_))))))))))))))))
          have hC3 : CR I3 L3 (G, K, hk, tn, tt, ln, sz, it) := CR_FJ hC1 hf2 ⟨_, hj2.2.2.2.2.2.2.2.2.2.1⟩
          have j4 : I3 21 4 = nI (g_S G kind snow (G 26) f i2).1 := hj2.2.2.2.1
          have j6 : I3 21 6 = nI i2 := hj2.2.2.2.2.1
          have jp := hj2.2.2.2.2.2.2.2.2.2.2
          show (¬ I3 21 6 = nI k + 1 → _) ∧ (I3 21 6 = nI k + 1 → _)
          rw [j6, nI_1]
          by_cases e : i2 = k + 1
          · subst e
            refine am_nf rfl ?_
            have hi : nI ii + nI k = nI (ii + k) := nI_add ii k
            have hb : f_hasB I3 32 (nI (ii + k)) 1 = 1 := by
              have q : I3 32 2 = nI (sz 3) := (hC3.2.2.2.2.2.2 3 (by omega)).2.1 hl
              rw [am_has hz24 q]
              have e1 : (1 : Int32).toInt = 1 := rfl
              rw [nI_toInt (by omega)]
              exact am_b1 ⟨by omega, by omega, by omega⟩
            have q2 : L3 33 (ii + k) = it 3 (ii + k) := (hC3.2.2.2.2.2.2 3 (by omega)).2.2 _ (by omega)
            show am_isS 32 ∧ ((f_hasB I3 32 (nI ii + nI k) 1 = 1 → vp_in (nI ii + nI k) 24) ∧ _)
            rw [hi]
            refine And.intro (Or.inr (Or.inr (Or.inr rfl))) (And.intro (fun _ => am_vin (by omega) rfl) ?_)
            show (lg_cmp (I3 21 4).toInt64 (if f_hasB I3 32 (nI (ii + k)) 1 = 1 then L3 33 (nI (ii + k)).toNatClampNeg else -4) = 0 → _) ∧ (¬ lg_cmp (I3 21 4).toInt64 (if f_hasB I3 32 (nI (ii + k)) 1 = 1 then L3 33 (nI (ii + k)).toNatClampNeg else -4) = 0 → _)
            rw [if_pos hb, nI_clamp (by omega), q2, j4, am_cmp_eq]
            by_cases e2 : (nI (g_S G kind snow (G 26) f (k + 1)).1).toInt64 = it 3 (ii + k)
            · refine am_t e2 ?_
              show G2 24 [some (.ref 0), some (.int (nI kind)), some (.int (nI f)), some (.int (nI snow)), some (.ref 32), some (.int (nI ii)), some (.int (nI nn)), some (.int (nI k + 1))] [] I3 L3
              rw [nI_1]
              refine ih (k + 1) I3 L3 (by omega) (by omega) hj2 hC3 (fun j hj3 => ?_)
              rcases Nat.lt_or_ge j k with z | z
              · exact hm j z
              · rw [show j = k by omega]; exact e2
            · exact am_f e2 (And.intro (Or.inl rfl) (hF I3 L3 hC3 (fun z => e2 ((g_lv_iff.mp z).2 k (by omega)))))
          · have e3 : i2 = k := by omega
            subst e3
            refine am_nt (fun z => e ((nI_eq (by omega) (by omega)).mp z)) (And.intro (Or.inl rfl) (hF I3 L3 hC3 (fun z => ?_)))
            have hen : ¬ g_end G (g_S G kind snow (G 26) f) i2 = 3 := by
              rcases hi3 with q | q
              · omega
              · exact q
            have := g_T_of hX hen jp
            have := (g_lv_iff.mp z).1
            omega
      refine hG2 [(24, [])] 100 0 _ _ _ _ (And.intro (rfl) (And.intro (rfl) (Exists.intro (G) (Exists.intro (kind) (Exists.intro (snow) (Exists.intro (G 26) (Exists.intro (f) (Exists.intro (V) (And.intro (hX) (And.intro (hR) (And.intro (rfl) (And.intro (rfl) (And.intro (rfl) (And.intro (hR.2.2.2.1) (And.intro (hS) (fun I1 L1 hj1 hf1 => ?_))))))))))))))))
      exact loop nn 0 I1 L1 (by omega) (by omega) hj1 (CR_FJ hC hf1 ⟨_, hj1.2.2.2.2.2.2.2.2.2.1⟩) (fun j hj => by omega)
  · exact h.elim
