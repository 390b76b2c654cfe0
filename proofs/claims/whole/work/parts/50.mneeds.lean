/-! THE REFERENCE: what is needed at worst -/
theorem am_h1 {m k : Nat} (hk : k < 32) (h : m.testBit k = true) : ¬ am_b (f_h (nI m) (nI k) = 1) = 0 := by
  rw [f_h_nI m hk]
  exact am_bp (am_b1 h)
theorem am_h0 {m k : Nat} (hk : k < 32) (h : ¬ m.testBit k = true) : am_b (f_h (nI m) (nI k) = 1) = 0 := by
  rw [f_h_nI m hk, am_b0 h]
  exact am_bn (by decide)
def TH (I : am_I) (G : Nat → Nat) : Prop := ∀ k, k < G 0 → I 12 k = nI (g_th G k)
def NE (I : am_I) (G : Nat → Nat) (N : Nat → Nat → Nat) (c : Nat) : Prop := ∀ c' p, c ≤ c' → c' < g_al G → p < 8 → I 11 (8 * c' + p) = nI (N c' p) ∧ N c' p ≤ 10000
theorem am_mx (a b : Nat) (ha : a ≤ 10000) (hb : b ≤ 10000) : (if nI b < nI a then nI a else nI b) = nI (g_mx a b) := by
  unfold g_mx
  by_cases h : b < a
  · rw [if_pos h, if_pos (nI_lt h (by omega))]
  · rw [if_neg h, if_neg (nI_nlt (by omega) (by omega))]
theorem am_n8 {c p : Nat} (hc : c < 729) (hp : p < 8) : ((8 : Int32) * nI c + nI p).toNatClampNeg = 8 * c + p ∧ vp_in ((8 : Int32) * nI c + nI p) 5832 := by
  rw [pk_m8, nI_add]
  exact ⟨nI_clamp (by omega), am_vin (by omega) rfl⟩
theorem am_2t (t : Nat) : (2 : Int32) * nI t = nI (2 * t) := by rw [show (2 : Int32) = nI 2 from rfl, pk_mul]
def T_MD_layThrees : am_Sp := fun vs I L post => match vs with
  | [.ref o] => o = 0 ∧ ∃ G, WG G ∧ RM I 0 G ∧ ∀ I2 : am_I, TH I2 G → I2 0 23 = nI (g_al G) → (∀ a : Nat, a ≠ 0 → a ≠ 12 → I2 a = I a) → (∀ k : Nat, k ≠ 23 → I2 0 k = I 0 k) → post none I2 L
  | _ => False
def sp_MD_layThrees : Nat → am_Sp := fun i => match i with
  | 83 => T_MD_has
  | _ => am_no
set_option maxRecDepth 100000 in
set_option maxHeartbeats 4000000 in
theorem ok_MD_layThrees : am_Ok am_SM sp_MD_layThrees false k_MD_layThrees 2 T_MD_layThrees := by
  intro vs I L post h
  unfold T_MD_layThrees at h
  split at h
  · rename_i o
    obtain ⟨rfl, G, hW, hM, h⟩ := h
    refine ⟨Nat.le_of_ble_eq_true rfl, fun G2 hG2 => ?_⟩
    have h12 := hW.1
    have loop : ∀ d k (I1 : am_I), G 0 - k = d → k ≤ G 0 → (∀ j, j < k → I1 12 j = nI (g_th G j)) → I1 0 23 = nI (3 ^ g_pc (G 25) k) → (∀ a : Nat, a ≠ 0 → a ≠ 12 → I1 a = I a) → (∀ k : Nat, k ≠ 23 → I1 0 k = I 0 k) → G2 7 [some (.ref 0), some (.int (nI k))] [] I1 L := by
      intro d
      induction d with
      | zero =>
        intro k I1 hd hk hv ha ho hoz
        have e : k = G 0 := by omega
        subst e
        have w0 : I1 1 (0 : Int32).toNatClampNeg = nI (G 0) := by rw [ho 1 (by omega) (by omega)]; exact RM_i hM 0 (by omega)
        exact hG2 [(7, [])] 100 7 _ _ _ _ (And.intro (am_vin (n := 0) (by decide) rfl) (am_nt (by rw [w0]; exact nI_nlt (Nat.le_refl _) (by omega)) (h I1 hv ha ho hoz)))
      | succ d ih =>
        intro k I1 hd hk hv ha ho hoz
        have hk2 : k < G 0 := by omega
        have w0 : I1 1 (0 : Int32).toNatClampNeg = nI (G 0) := by rw [ho 1 (by omega) (by omega)]; exact RM_i hM 0 (by omega)
        have w25 : I1 1 (25 : Int32).toNatClampNeg = nI (G 25) := by rw [ho 1 (by omega) (by omega)]; exact RM_i hM 25 (by omega)
        have ck : (nI k).toNatClampNeg = k := nI_clamp (by omega)
        have snd : ∀ I3 : am_I, (∀ j, j < k + 1 → I3 12 j = nI (g_th G j)) → I3 0 23 = nI (3 ^ g_pc (G 25) k) → (∀ a : Nat, a ≠ 0 → a ≠ 12 → I3 a = I a) → (∀ k : Nat, k ≠ 23 → I3 0 k = I 0 k) → G2 45 [some (.ref 0), some (.int (nI k))] [] I3 L := by
          intro I3 hv3 ha3 ho3 hoz3
          have w25 : I3 1 (25 : Int32).toNatClampNeg = nI (G 25) := by rw [ho3 1 (by omega) (by omega)]; exact RM_i hM 25 (by omega)
          have nx : ∀ v : Int32, v = nI (3 ^ g_pc (G 25) (k + 1)) → G2 7 [some (.ref 0), some (.int (nI k + 1))] [] (am_ui I3 0 23 v) L := by
            intro v hv
            rw [nI_1]
            exact ih (k + 1) _ (by omega) (by omega) (fun j hj => by rw [am_uo (by omega)]; exact hv3 j hj) (by rw [am_ui_e]; exact hv) (fun a a0 a12 => by rw [am_ui_o a0]; exact ho3 a a0 a12) (fun j hj => by rw [am_uk hj]; exact hoz3 j hj)
          by_cases hb : (G 25).testBit k = true
          · refine hG2 [(7, [])] 100 45 _ _ _ _ (And.intro (am_vin (n := 25) (by decide) rfl) (am_f (by rw [w25]; exact am_h1 (by omega) hb) (nx _ ?_)))
            simp only [g_pc, if_pos hb]
            rw [ha3, Nat.pow_succ, ← pk_mul]
            rfl
          · refine hG2 [(7, [])] 100 45 _ _ _ _ (And.intro (am_vin (n := 25) (by decide) rfl) (am_t (by rw [w25]; exact am_h0 (by omega) hb) (nx _ ?_)))
            simp only [g_pc, if_neg hb]
            rw [ha3, show (1 : Int32) = nI 1 from rfl, pk_mul, Nat.mul_one, Nat.add_zero]
        have mid : ∀ v : Int32, v = nI (g_th G k) → G2 45 [some (.ref 0), some (.int (nI k))] [] (am_ui I1 12 (nI k).toNatClampNeg v) L := by
          intro v hv3
          rw [ck]
          refine snd _ (fun j hj => ?_) (by rw [am_uo (by omega)]; exact ha) (fun a a0 a12 => by rw [am_ui_o a12]; exact ho a a0 a12) (fun j hj => by rw [am_uo (by omega)]; exact hoz j hj)
          by_cases e : j = k
          · subst e; rw [am_ui_e]; exact hv3
          · rw [am_uk e]; exact hv j (by omega)
        by_cases hb : (G 25).testBit k = true
        · refine hG2 [(7, []), (45, [])] 100 7 _ _ _ _ (And.intro (am_vin (n := 0) (by decide) rfl) (am_nf (by rw [w0]; exact nI_lt hk2 (by omega)) (And.intro (am_vin (n := 25) (by decide) rfl) (am_f (by rw [w25]; exact am_h1 (by omega) hb) (And.intro (am_vin (by omega) rfl) (mid _ ?_))))))
          rw [ha, (g_th_t hb).1]
        · refine hG2 [(7, []), (45, [])] 100 7 _ _ _ _ (And.intro (am_vin (n := 0) (by decide) rfl) (am_nf (by rw [w0]; exact nI_lt hk2 (by omega)) (And.intro (am_vin (n := 25) (by decide) rfl) (am_t (by rw [w25]; exact am_h0 (by omega) hb) (And.intro (am_vin (by omega) rfl) (mid _ ?_))))))
          unfold g_th
          rw [if_neg hb]
          rfl
    refine hG2 [(7, [])] 100 0 _ _ _ _ ?_
    exact loop (G 0) 0 _ (by omega) (by omega) (fun j hj => by omega) (by rw [am_ui_e]; rfl) (fun a a0 a12 => by rw [am_ui_o a0]) (fun j hj => by rw [am_uk hj])
  · exact h.elim
def T_MD_knows : am_Sp := fun vs I L post => match vs with
  | [.ref o, .int x, .int y] => o = 0 ∧ ∃ G c k, WG G ∧ TH I G ∧ k < G 0 ∧ c < 2000000000 ∧ x = nI c ∧ y = nI k ∧ post (some (.int (nI (g_kn G c k)))) I L
  | _ => False
abbrev sp_MD_knows : Nat → am_Sp := fun _ => am_no
set_option maxRecDepth 100000 in
set_option maxHeartbeats 4000000 in
theorem ok_MD_knows : am_Ok am_SM sp_MD_knows false k_MD_knows 3 T_MD_knows := by
  intro vs I L post h
  unfold T_MD_knows at h
  split at h
  · rename_i o x y
    obtain ⟨rfl, G, c, k, hW, hT, hk, hc, rfl, rfl, h⟩ := h
    refine ⟨Nat.le_of_ble_eq_true rfl, fun G2 hG2 => ?_⟩
    have h12 := hW.1
    have ck : (nI k).toNatClampNeg = k := nI_clamp (by omega)
    have e : I 12 (nI k).toNatClampNeg = nI (g_th G k) := by rw [ck]; exact hT k hk
    have hle := g_th_le hW hk
    have vk : vp_in (nI k) 12 := am_vin (by omega) rfl
    by_cases h0 : g_th G k = 0
    · unfold g_kn at h
      rw [if_pos h0] at h
      exact hG2 [] 100 0 _ _ _ _ (And.intro vk (am_nf (by rw [e, h0]; rfl) h))
    · unfold g_kn at h
      rw [if_neg h0] at h
      have n0 : ¬ nI (g_th G k) = 0 := nI_ne0 (by omega) (by omega)
      refine hG2 [] 100 0 _ _ _ _ (And.intro vk (am_nt (by rw [e]; exact n0) (And.intro vk (And.intro (by rw [e]; exact n0) (And.intro (by decide) ?_)))))
      have hd : c / g_th G k ≤ c := Nat.div_le_self _ _
      show post (some (.int (nI c / I 12 (nI k).toNatClampNeg - nI c / I 12 (nI k).toNatClampNeg / 3 * 3))) I L
      rw [e, pk_div (by omega) (by omega) (by omega), show (3 : Int32) = nI 3 from rfl, pk_rem (by omega) (by omega) (by omega)]
      exact h
  · exact h.elim
def T_MD_come : am_Sp := fun vs I L post => match vs with
  | [.ref o, .int x, .int y] => o = 0 ∧ ∃ G N p c, WG G ∧ RM I 0 G ∧ TH I G ∧ NE I G N c ∧ c < g_al G ∧ p < 8 ∧ x = nI p ∧ y = nI c ∧ post (some (.int (nI (g_co G N p c)))) I L
  | _ => False
def sp_MD_come : Nat → am_Sp := fun i => match i with
  | 83 => T_MD_has
  | 179 => T_MD_knows
  | 182 => T_MD_greater
  | _ => am_no
set_option maxRecDepth 100000 in
set_option maxHeartbeats 4000000 in
theorem ok_MD_come : am_Ok am_SM sp_MD_come false k_MD_come 4 T_MD_come := by
  intro vs I L post h
  unfold T_MD_come at h
  split at h
  · rename_i o x y
    obtain ⟨rfl, G, N, p, c, hW, hM, hT, hN, hc, hp, rfl, rfl, h⟩ := h
    refine ⟨Nat.le_of_ble_eq_true rfl, fun G2 hG2 => ?_⟩
    have hal := (g_al_le hW).1
    have h43 : G 43 < 8 := hW.2.2.2.2.2.2.2.2.1
    have i35 : ((35 : Int32) + nI p).toNatClampNeg = 35 + p := am_ix (a := 35) (by omega)
    have v35 : vp_in ((35 : Int32) + nI p) 90 := am_ixv (a := 35) (by omega)
    have w35 : I 1 ((35 : Int32) + nI p).toNatClampNeg = nI (G (35 + p)) := by rw [i35]; exact RM_i hM _ (by omega)
    have w26 : I 1 (26 : Int32).toNatClampNeg = nI (G 26) := RM_i hM 26 (by omega)
    have w43 : I 1 (43 : Int32).toNatClampNeg = nI (G 43) := RM_i hM 43 (by omega)
    have a0 := am_n8 (c := c) (p := p) (by omega) hp
    have n0 := hN c p (Nat.le_refl c) hc hp
    have plain : ∀ k : Int32, (¬ (G 26).testBit p = true ∨ p = G 43 ∨ ¬ g_kn G c (G (35 + p)) = 0) → G2 44 [some (.ref 0), some (.int (nI p)), some (.int (nI c)), some (.int (k))] [] I L := by
      intro k hk
      unfold g_co at h
      rw [if_pos hk] at h
      refine hG2 [] 100 44 _ _ _ _ (And.intro a0.2 ?_)
      show post (some (.int (I 11 ((8 : Int32) * nI c + nI p).toNatClampNeg))) I L
      rw [a0.1, n0.1]
      exact h
    refine hG2 [(10, [])] 100 0 _ _ _ _ (And.intro v35 ?_)
    show G2 10 [some (.ref 0), some (.int (nI p)), some (.int (nI c)), some (.int (I 1 ((35 : Int32) + nI p).toNatClampNeg))] [] I L
    rw [w35]
    by_cases hs : (G 26).testBit p = true
    · by_cases hh : p = G 43
      · exact hG2 [(44, [])] 100 10 _ _ _ _ (And.intro (am_vin (n := 26) (by decide) rfl) (am_f (by rw [w26]; exact am_h1 (by omega) hs) (And.intro (am_vin (n := 43) (by decide) rfl) (am_t (by rw [w43, ← hh]) (plain _ (Or.inr (Or.inl hh)))))))
      · have hk := (hW.2.2.2.2.2.2.2.1 p hp hs).2
        have h12 := hW.1
        refine hG2 [(44, [])] 100 10 _ _ _ _ (And.intro (am_vin (n := 26) (by decide) rfl) (am_f (by rw [w26]; exact am_h1 (by omega) hs) (And.intro (am_vin (n := 43) (by decide) rfl) (am_f (by rw [w43, nI_eq (by omega) (by omega)]; exact hh) (And.intro (rfl) (Exists.intro (G) (Exists.intro (c) (Exists.intro (G (35 + p)) (And.intro (hW) (And.intro (hT) (And.intro (hk) (And.intro (by omega) (And.intro (rfl) (And.intro (rfl) (?_)))))))))))))))
        have hk3 := g_kn_lt G c (G (35 + p))
        by_cases h0 : g_kn G c (G (35 + p)) = 0
        · have hl := g_upl hk hc h0
          have hcond : ¬ (¬ (G 26).testBit p = true ∨ p = G 43 ∨ ¬ g_kn G c (G (35 + p)) = 0) := by rintro (q | q | q); exact q hs; exact hh q; exact q h0
          unfold g_co at h
          rw [if_neg hcond] at h
          have ek : I 12 (nI (G (35 + p))).toNatClampNeg = nI (g_th G (G (35 + p))) := by rw [nI_clamp (by omega)]; exact hT _ hk
          generalize ht : g_th G (G (35 + p)) = t at *
          have a1 := am_n8 (c := c + t) (p := p) (by omega) hp
          have a2 := am_n8 (c := c + 2 * t) (p := p) (by omega) hp
          have n1 := hN (c + t) p (by omega) (by omega) hp
          have n2 := hN (c + 2 * t) p (by omega) (by omega) hp
          have s1 : nI c + I 12 (nI (G (35 + p))).toNatClampNeg = nI (c + t) := by rw [ek, nI_add]
          have s2 : nI c + (2 : Int32) * I 12 (nI (G (35 + p))).toNatClampNeg = nI (c + 2 * t) := by rw [ek, am_2t, nI_add]
          refine am_t (by rw [h0]; rfl) ?_
          refine And.intro (am_vin (by omega) rfl) (And.intro (by rw [s1]; exact a1.2) (And.intro (am_vin (by omega) rfl) (And.intro (by rw [s2]; exact a2.2) ?_)))
          show post (some (.int (if I 11 ((8 : Int32) * (nI c + (2 : Int32) * I 12 (nI (G (35 + p))).toNatClampNeg) + nI p).toNatClampNeg < I 11 ((8 : Int32) * (nI c + I 12 (nI (G (35 + p))).toNatClampNeg) + nI p).toNatClampNeg then I 11 ((8 : Int32) * (nI c + I 12 (nI (G (35 + p))).toNatClampNeg) + nI p).toNatClampNeg else I 11 ((8 : Int32) * (nI c + (2 : Int32) * I 12 (nI (G (35 + p))).toNatClampNeg) + nI p).toNatClampNeg))) I L
          rw [s1, s2, a1.1, a2.1, n1.1, n2.1, am_mx _ _ n1.2 n2.2]
          exact h
        · exact am_f (nI_ne0 (by omega) (by omega)) (plain _ (Or.inr (Or.inr h0)))
    · exact hG2 [(44, [])] 100 10 _ _ _ _ (And.intro (am_vin (n := 26) (by decide) rfl) (am_t (by rw [w26]; exact am_h0 (by omega) hs) (plain _ (Or.inl hs))))
  · exact h.elim
def T_MD_needBy : am_Sp := fun vs I L post => match vs with
  | [.ref o, .int x, .int y, .int z] => o = 0 ∧ ∃ G N p q c, WG G ∧ RM I 0 G ∧ LW I G ∧ TH I G ∧ NE I G N c ∧ c < g_al G ∧ p < 8 ∧ q < 8 ∧ x = nI p ∧ y = nI q ∧ z = nI c ∧ post (some (.int (nI (g_nb G N p q c)))) I L
  | _ => False
def sp_MD_needBy : Nat → am_Sp := fun i => match i with
  | 179 => T_MD_knows
  | 182 => T_MD_greater
  | 185 => T_MD_come
  | _ => am_no
set_option maxRecDepth 100000 in
set_option maxHeartbeats 4000000 in
theorem ok_MD_needBy : am_Ok am_SM sp_MD_needBy false k_MD_needBy 7 T_MD_needBy := by
  intro vs I L post h
  unfold T_MD_needBy at h
  split at h
  · rename_i o x y z
    obtain ⟨rfl, G, N, p, q, c, hW, hM, hL, hT, hN, hc, hp, hq, rfl, rfl, rfl, h⟩ := h
    refine ⟨Nat.le_of_ble_eq_true rfl, fun G2 hG2 => ?_⟩
    have hal := (g_al_le hW).1
    have h12 := hW.1
    have ix : ((8 : Int32) * nI p + nI q) = nI (8 * p + q) := by rw [pk_m8, nI_add]
    have vix : vp_in ((8 : Int32) * nI p + nI q) 64 := by rw [ix]; exact am_vin (by omega) rfl
    have hj : I 7 ((8 : Int32) * nI p + nI q).toNatClampNeg = nI (g_wy G p q) - 1 := by rw [ix, nI_clamp (by omega)]; exact hL p q hp hq
    refine hG2 [(13, [])] 100 0 _ _ _ _ (And.intro vix ?_)
    show G2 13 [some (.ref 0), some (.int (nI p)), some (.int (nI q)), some (.int (nI c)), some (.int (I 7 ((8 : Int32) * nI p + nI q).toNatClampNeg)), none, none] [] I L
    rw [hj]
    by_cases hw : g_wy G p q = 0
    · unfold g_nb at h
      rw [if_pos hw] at h
      rw [hw]
      exact hG2 [] 100 13 _ _ _ _ (am_nf (by decide) (am_nf rfl h))
    · obtain ⟨k, hk, hk0⟩ := g_wy_k hw
      rw [hk, nI_pred]
      unfold g_nb at h
      rw [if_neg hw, hk, Nat.add_sub_cancel] at h
      have hk3 := g_kn_lt G c k
      refine hG2 [(31, [])] 100 13 _ _ _ _ (am_nt (nI_pos (by omega)) (And.intro (rfl) (Exists.intro (G) (Exists.intro (c) (Exists.intro (k) (And.intro (hW) (And.intro (hT) (And.intro (hk0) (And.intro (by omega) (And.intro (rfl) (And.intro (rfl) (?_))))))))))))
      show G2 31 [some (.ref 0), some (.int (nI p)), some (.int (nI q)), some (.int (nI c)), some (.int (nI k)), some (.int (nI (g_kn G c k))), none] [] I L
      by_cases h2 : g_kn G c k = 2
      · rw [if_pos h2] at h
        exact hG2 [] 100 31 _ _ _ _ (am_nf (by rw [h2]; rfl) h)
      · rw [if_neg h2] at h
        have n2 : ¬ nI (g_kn G c k) = 2 := fun z => h2 ((nI_eq (b := 2) (by omega) (by omega)).mp z)
        have fin : ∀ v : Int32, v = nI (g_nd G N p q c k) → g_nd G N p q c k ≤ 10000 → G2 96 [some (.ref 0), some (.int (nI p)), some (.int (nI q)), some (.int (nI c)), some (.int (nI k)), some (.int (nI (g_kn G c k))), some (.int (v))] [] I L := by
          intro v hv hle
          subst hv
          by_cases h9 : 10000 ≤ g_nd G N p q c k
          · rw [if_pos h9] at h
            exact hG2 [] 100 96 _ _ _ _ (am_f (show ¬ nI (g_nd G N p q c k) < nI 10000 from nI_nlt h9 (by omega)) h)
          · rw [if_neg h9] at h
            refine hG2 [] 100 96 _ _ _ _ (am_t (show nI (g_nd G N p q c k) < nI 10000 from nI_lt (by omega) (by omega)) ?_)
            show post (some (.int (nI (g_nd G N p q c k) + 1))) I L
            rw [nI_1]
            exact h
        have cole : ∀ c2, c ≤ c2 → c2 < g_al G → g_co G N q c2 ≤ 10000 := by
          intro c2 hc2 hc3
          unfold g_co
          split
          · exact (hN c2 q hc2 hc3 hq).2
          · rename_i hz
            have hs : (G 26).testBit q = true := Classical.byContradiction (fun z => hz (Or.inl z))
            have h0 : g_kn G c2 (G (35 + q)) = 0 := Classical.byContradiction (fun z => hz (Or.inr (Or.inr z)))
            have hl := g_upl (hW.2.2.2.2.2.2.2.1 q hq hs).2 hc3 h0
            exact g_mx_u (hN _ q (by omega) (by omega) hq).2 (hN _ q (by omega) hl hq).2
        by_cases h1 : g_kn G c k = 1
        · have e1 : g_nd G N p q c k = g_co G N q c := by unfold g_nd; rw [if_pos h1]
          refine hG2 [(96, [])] 100 31 _ _ _ _ (am_nt n2 (am_nf (by rw [h1]; rfl) (And.intro (rfl) (Exists.intro (G) (Exists.intro (N) (Exists.intro (q) (Exists.intro (c) (And.intro (hW) (And.intro (hM) (And.intro (hT) (And.intro (fun c2 p2 h2 => hN c2 p2 (by omega)) (And.intro (by omega) (And.intro (hq) (And.intro (rfl) (And.intro (rfl) (?_))))))))))))))))
          exact fin _ (by rw [e1]) (by rw [e1]; exact cole c (Nat.le_refl c) hc)
        · have h0 : g_kn G c k = 0 := by omega
          have e1 : g_nd G N p q c k = g_mx (g_co G N q (c + g_th G k)) (N (c + 2 * g_th G k) p) := by unfold g_nd; rw [if_neg h1]
          have hl := g_upl hk0 hc h0
          have ck : (nI k).toNatClampNeg = k := nI_clamp (by omega)
          have ek : I 12 (nI k).toNatClampNeg = nI (g_th G k) := by rw [ck]; exact hT k hk0
          have a2 := am_n8 (c := c + 2 * g_th G k) (p := p) (by omega) hp
          have nn2 := hN (c + 2 * g_th G k) p (by omega) hl hp
          have cl := cole (c + g_th G k) (by omega) (by omega)
          have s2 : nI c + (2 : Int32) * I 12 (nI k).toNatClampNeg = nI (c + 2 * g_th G k) := by rw [ek, am_2t, nI_add]
          refine hG2 [(96, [])] 100 31 _ _ _ _ (am_nt n2 (am_nt (fun z => h1 ((nI_eq (b := 1) (by omega) (by omega)).mp z)) (And.intro (am_vin (by omega) rfl) (And.intro (rfl) (Exists.intro (G) (Exists.intro (N) (Exists.intro (q) (Exists.intro (c + g_th G k) (And.intro (hW) (And.intro (hM) (And.intro (hT) (And.intro (fun c2 p2 h2 => hN c2 p2 (by omega)) (And.intro (by omega) (And.intro (hq) (And.intro (rfl) (And.intro (by rw [ek, nI_add]) (And.intro (am_vin (by omega) rfl) (And.intro (by rw [s2]; exact a2.2) ?_))))))))))))))))))
          show G2 96 [some (.ref 0), some (.int (nI p)), some (.int (nI q)), some (.int (nI c)), some (.int (nI k)), some (.int (nI (g_kn G c k))), some (.int (if I 11 ((8 : Int32) * (nI c + (2 : Int32) * I 12 (nI k).toNatClampNeg) + nI p).toNatClampNeg < nI (g_co G N q (c + g_th G k)) then nI (g_co G N q (c + g_th G k)) else I 11 ((8 : Int32) * (nI c + (2 : Int32) * I 12 (nI k).toNatClampNeg) + nI p).toNatClampNeg))] [] I L
          refine fin _ ?_ (by rw [e1]; exact g_mx_u cl nn2.2)
          rw [s2, a2.1, nn2.1, am_mx _ _ cl nn2.2, e1]
  · exact h.elim
