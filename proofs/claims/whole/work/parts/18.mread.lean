/-! THE REFERENCE: what a stone tells, how far home is -/
theorem g_cnt_lt2 {P Q : Nat → Bool} : ∀ n, (∀ j, j < n → P j = true → Q j = true) → (∃ w, w < n ∧ P w = false ∧ Q w = true) → g_cnt P n < g_cnt Q n := by
  have le : ∀ n, (∀ j, j < n → P j = true → Q j = true) → g_cnt P n ≤ g_cnt Q n := by
    intro n
    induction n with
    | zero => intro _; exact Nat.le_refl _
    | succ n ih =>
      intro h
      have := ih (fun j hj => h j (by omega))
      simp only [g_cnt]
      by_cases hp : P n = true
      · rw [if_pos hp, if_pos (h n (by omega) hp)]; omega
      · rw [if_neg hp]; split <;> omega
  intro n
  induction n with
  | zero => rintro _ ⟨w, h, _⟩; omega
  | succ n ih =>
    rintro h ⟨w, hw, h1, h2⟩
    simp only [g_cnt]
    rcases Nat.lt_or_ge w n with z | z
    · have := ih (fun j hj => h j (by omega)) ⟨w, z, h1, h2⟩
      by_cases hp : P n = true
      · rw [if_pos hp, if_pos (h n (by omega) hp)]; omega
      · rw [if_neg hp]; split <;> omega
    · have e : w = n := by omega
      subst e
      have := le w (fun j hj => h j (by omega))
      rw [h1, h2]
      simp; omega
theorem g_R7 {E : Nat → Nat → Bool} {h : Nat} (hh : h < 8) {m q : Nat} (hq : q < 8) (hr : g_R E h m q = true) : g_R E h 7 q = true := by
  have key : ∀ k, (∃ j, j < k ∧ ∀ i, i < 8 → g_R E h (j + 1) i = true → g_R E h j i = true) ∨ k + 1 ≤ g_cnt (fun i => g_R E h k i) 8 := by
    intro k
    induction k with
    | zero =>
      right
      have : g_cnt (fun _ => false) 8 < g_cnt (fun i => g_R E h 0 i) 8 := g_cnt_lt2 8 (fun j _ z => by cases z) ⟨h, hh, rfl, by simp [g_R]⟩
      omega
    | succ k ih =>
      rcases ih with ⟨j, a, b⟩ | a
      · exact Or.inl ⟨j, by omega, b⟩
      · by_cases hs : ∀ i, i < 8 → g_R E h (k + 1) i = true → g_R E h k i = true
        · exact Or.inl ⟨k, by omega, hs⟩
        · right
          have : ∃ w, w < 8 ∧ g_R E h k w = false ∧ g_R E h (k + 1) w = true := by
            apply Classical.byContradiction
            intro hn
            apply hs
            intro i hi h1
            cases hk : g_R E h k i with
            | true => rfl
            | false => exact absurd ⟨i, hi, hk, h1⟩ hn
          have := g_cnt_lt2 (P := fun i => g_R E h k i) (Q := fun i => g_R E h (k + 1) i) 8 (fun j _ z => g_R_mono (Nat.le_succ k) z) this
          omega
  rcases key 8 with ⟨j, a, b⟩ | a
  · rcases Nat.lt_or_ge m j with z | z
    · exact g_R_mono (by omega) hr
    · have := g_stable b (m - j) q hq (by rw [show j + (m - j) = m by omega]; exact hr)
      exact g_R_mono (by omega) this
  · have := g_cnt_le (fun i => g_R E h 8 i) 8
    omega
theorem am_b_I (P : Prop) [Decidable P] : am_b P = nI (if P then 1 else 0) := by
  by_cases h : P
  · rw [am_b1 h, if_pos h]; rfl
  · rw [am_b0 h, if_neg h]; rfl
def T_MD_tells : am_Sp := fun vs I L post => match vs with
  | [.ref o, .int x, .int y, .int z] => o = 0 ∧ ∃ G p f snow, WG G ∧ RM I 0 G ∧ p < 8 ∧ f < 8 ∧ (G 26).testBit p = true ∧ x = nI p ∧ y = nI f ∧ z = nI snow ∧ post (some (.int (am_b (snow.testBit (G (35 + p)) = false ↔ G (27 + p) = f)))) I L
  | _ => False
def sp_MD_tells : Nat → am_Sp := fun i => match i with
  | 83 => T_MD_has
  | _ => am_no
theorem ok_MD_tells : am_Ok am_SM sp_MD_tells false k_MD_tells 5 T_MD_tells := by
  intro vs I L post h
  unfold T_MD_tells at h
  split at h
  · rename_i o x y z
    obtain ⟨rfl, G, p, f, snow, hW, hM, hp, hf, hst, rfl, rfl, rfl, h⟩ := h
    refine ⟨Nat.le_of_ble_eq_true rfl, fun G2 hG2 => ?_⟩
    have hb := hW.2.2.2.2.2.2.2.1 p hp hst
    have h12 := hW.1
    have i1 : ((35 : Int32) + nI p).toNatClampNeg = 35 + p := by rw [show (35 : Int32) = nI 35 from rfl, nI_add, nI_clamp (by omega)]
    have i2 : ((27 : Int32) + nI p).toNatClampNeg = 27 + p := by rw [show (27 : Int32) = nI 27 from rfl, nI_add, nI_clamp (by omega)]
    have v1 : vp_in ((35 : Int32) + nI p) 90 := by rw [show (35 : Int32) = nI 35 from rfl, nI_add]; exact am_vin (by omega) rfl
    have v2 : vp_in ((27 : Int32) + nI p) 90 := by rw [show (27 : Int32) = nI 27 from rfl, nI_add]; exact am_vin (by omega) rfl
    have wa : I 1 ((35 : Int32) + nI p).toNatClampNeg = nI (G (35 + p)) := by rw [i1]; exact RM_i hM _ (by omega)
    have wb : (nI f = I 1 ((27 : Int32) + nI p).toNatClampNeg) ↔ G (27 + p) = f := by rw [i2, RM_i hM _ (by omega), nI_eq (by omega) (by omega)]; exact ⟨fun q => q.symm, fun q => q.symm⟩
    have hh : f_h (nI snow) (I 1 ((35 : Int32) + nI p).toNatClampNeg) = am_b (snow.testBit (G (35 + p)) = true) := by rw [wa, f_h_nI _ (by omega)]
    refine hG2 [] 100 0 _ _ _ _ (And.intro v1 (And.intro (fun q1 => And.intro v2 (And.intro (fun q2 => ?_) (fun q2 => ?_))) (fun q1 => And.intro v2 (And.intro (fun q2 => ?_) (fun q2 => ?_)))))
    all_goals
      rw [hh, am_bz, am_bo] at q1
      rw [wb] at q2
      show post _ _ _
    · rw [am_b0 (by grind)] at h; exact h
    · rw [am_b1 (by grind)] at h; exact h
    · rw [am_b1 (by grind)] at h; exact h
    · rw [am_b0 (by grind)] at h; exact h
  · exact h.elim
def T_MD_reads : am_Sp := fun vs I L post => match vs with
  | [.ref o, .int x, .int y, .int z, .int u, .int v] => o = 0 ∧ ∃ G kind snow stones p f b, WG G ∧ RM I 0 G ∧ kind < 4 ∧ p < 8 ∧ f < 8 ∧ (G 26).testBit p = true ∧ stones.testBit p = true ∧ x = nI kind ∧ y = nI p ∧ z = nI f ∧ u = nI b ∧ v = nI snow ∧ post (some (.int (nI (g_heed G kind snow stones p f b)))) I L
  | _ => False
def sp_MD_reads : Nat → am_Sp := fun i => match i with
  | 128 => T_MD_tells
  | _ => am_no
set_option maxRecDepth 100000 in
theorem ok_MD_reads : am_Ok am_SM sp_MD_reads false k_MD_reads 9 T_MD_reads := by
  intro vs I L post h
  unfold T_MD_reads at h
  split at h
  · rename_i o x y z u v
    obtain ⟨rfl, G, kind, snow, stones, p, f, b, hW, hM, hkd, hp, hf, hst, hst2, rfl, rfl, rfl, rfl, rfl, h⟩ := h
    refine ⟨Nat.le_of_ble_eq_true rfl, fun G2 hG2 => ?_⟩
    have hb := hW.2.2.2.2.2.2.2.1 p hp hst
    have h12 := hW.1
    have i1 : ((35 : Int32) + nI p).toNatClampNeg = 35 + p := by rw [show (35 : Int32) = nI 35 from rfl, nI_add, nI_clamp (by omega)]
    have i2 : ((27 : Int32) + nI p).toNatClampNeg = 27 + p := by rw [show (27 : Int32) = nI 27 from rfl, nI_add, nI_clamp (by omega)]
    have v1 : vp_in ((35 : Int32) + nI p) 90 := by rw [show (35 : Int32) = nI 35 from rfl, nI_add]; exact am_vin (by omega) rfl
    have v2 : vp_in ((27 : Int32) + nI p) 90 := by rw [show (27 : Int32) = nI 27 from rfl, nI_add]; exact am_vin (by omega) rfl
    have wa : I 1 ((35 : Int32) + nI p).toNatClampNeg = nI (G (35 + p)) := by rw [i1]; exact RM_i hM _ (by omega)
    have wb : (nI f = I 1 ((27 : Int32) + nI p).toNatClampNeg) ↔ G (27 + p) = f := by rw [i2, RM_i hM _ (by omega), nI_eq (by omega) (by omega)]; exact ⟨fun q => q.symm, fun q => q.symm⟩
    have c1 : (nI kind = 1) ↔ kind = 1 := by rw [show (1 : Int32) = nI 1 from rfl, nI_eq (by omega) (by omega)]
    have c2 : (nI kind = 2) ↔ kind = 2 := by rw [show (2 : Int32) = nI 2 from rfl, nI_eq (by omega) (by omega)]
    have c3 : (nI kind = 3) ↔ kind = 3 := by rw [show (3 : Int32) = nI 3 from rfl, nI_eq (by omega) (by omega)]
    have hset : nI b ||| ((1 : Int32) <<< (I 1 ((35 : Int32) + nI p).toNatClampNeg &&& 31)) = nI (g_set b (G (35 + p))) := by rw [wa, g_set_I _ (by omega)]
    have hclr : nI b &&& (((1 : Int32) <<< (I 1 ((35 : Int32) + nI p).toNatClampNeg &&& 31)) ^^^ (-1)) = nI (g_clr b (G (35 + p))) := by rw [wa, g_clr_I _ (by omega)]
    unfold g_heed at h
    rw [if_pos hst2] at h
    -- behind the answer of the stone
    have tail : ∀ (side : Int32) (op : Prop) [Decidable op], (side = am_b (G (27 + p) = f)) → (op ↔ (snow.testBit (G (35 + p)) = false ↔ G (27 + p) = f)) → ¬ kind = 2 → ¬ (kind = 1 ∧ ¬ G (27 + p) = f) → G2 48 [some (.ref 0), some (.int (nI kind)), some (.int (nI p)), some (.int (nI f)), some (.int (nI b)), some (.int (nI snow)), some (.int side), some (.int (am_b op)), none] [] I L := by
      intro side op _ hside hop hk2 hk1
      by_cases k3 : kind = 3
      · by_cases hs : G (27 + p) = f
        · rw [am_b1 hs] at hside
          subst hside
          refine hG2 [] 100 48 _ _ _ _ (am_nf (c3.mpr k3) (am_nt (by decide) (And.intro v1 (And.intro (fun q => ?_) (fun q => ?_)))))
          · rw [am_bo] at q
            show post (some (.int (nI b ||| ((1 : Int32) <<< (I 1 ((35 : Int32) + nI p).toNatClampNeg &&& 31))))) I L
            rw [hset]; grind
          · rw [am_bo] at q
            show post (some (.int (nI b &&& (((1 : Int32) <<< (I 1 ((35 : Int32) + nI p).toNatClampNeg &&& 31)) ^^^ (-1))))) I L
            rw [hclr]; grind
        · rw [am_b0 hs] at hside
          subst hside
          have e1 : (1 : Int32) - am_b op = am_b (¬ op) := by
            by_cases ho : op
            · rw [am_b1 ho, am_b0 (by simpa using ho)]; rfl
            · rw [am_b0 ho, am_b1 ho]; rfl
          refine hG2 [] 100 48 _ _ _ _ (am_nf (c3.mpr k3) (am_nf rfl (And.intro v1 (And.intro (fun q => ?_) (fun q => ?_)))))
          · rw [e1, am_bo] at q
            show post (some (.int (nI b ||| ((1 : Int32) <<< (I 1 ((35 : Int32) + nI p).toNatClampNeg &&& 31))))) I L
            rw [hset]; grind
          · rw [e1, am_bo] at q
            show post (some (.int (nI b &&& (((1 : Int32) <<< (I 1 ((35 : Int32) + nI p).toNatClampNeg &&& 31)) ^^^ (-1))))) I L
            rw [hclr]; grind
      · refine hG2 [] 100 48 _ _ _ _ (am_nt (fun z => k3 (c3.mp z)) (And.intro v1 (And.intro (fun q => ?_) (fun q => ?_))))
        · rw [am_bo] at q
          show post (some (.int (nI b ||| ((1 : Int32) <<< (I 1 ((35 : Int32) + nI p).toNatClampNeg &&& 31))))) I L
          rw [hset]; grind
        · rw [am_bo] at q
          show post (some (.int (nI b &&& (((1 : Int32) <<< (I 1 ((35 : Int32) + nI p).toNatClampNeg &&& 31)) ^^^ (-1))))) I L
          rw [hclr]; grind
    have mid : ∀ side : Int32, side = am_b (G (27 + p) = f) → G2 20 [some (.ref 0), some (.int (nI kind)), some (.int (nI p)), some (.int (nI f)), some (.int (nI b)), some (.int (nI snow)), some (.int side), none, none] [] I L := by
      intro side hside
      by_cases k2 : kind = 2
      · refine hG2 [] 100 20 _ _ _ _ (am_t (c2.mpr k2) ?_)
        show post (some (.int (nI b))) I L
        grind
      · refine hG2 [(48, [])] 100 20 _ _ _ _ (am_f (fun z => k2 (c2.mp z)) ?_)
        by_cases k1 : kind = 1 ∧ ¬ G (27 + p) = f
        · refine am_nf (c1.mpr k1.1) (am_nf (by rw [hside, am_b0 k1.2]) ?_)
          show post (some (.int (nI b))) I L
          grind
        · have go := tail side (snow.testBit (G (35 + p)) = false ↔ G (27 + p) = f) hside Iff.rfl k2 k1
          by_cases k0 : kind = 1
          · refine am_nf (c1.mpr k0) (am_nt (by rw [hside, am_b1 (by grind)]; decide) ?_)
            refine And.intro (rfl) (Exists.intro (G) (Exists.intro (p) (Exists.intro (f) (Exists.intro (snow) (And.intro (hW) (And.intro (hM) (And.intro (hp) (And.intro (hf) (And.intro (hst) (And.intro (rfl) (And.intro (rfl) (And.intro (rfl) (go)))))))))))))
          · refine am_nt (fun z => k0 (c1.mp z)) ?_
            refine And.intro (rfl) (Exists.intro (G) (Exists.intro (p) (Exists.intro (f) (Exists.intro (snow) (And.intro (hW) (And.intro (hM) (And.intro (hp) (And.intro (hf) (And.intro (hst) (And.intro (rfl) (And.intro (rfl) (And.intro (rfl) (go)))))))))))))
    refine hG2 [(20, [])] 100 0 _ _ _ _ (And.intro v2 (And.intro (fun q => ?_) (fun q => ?_)))
    · exact mid 0 (by rw [am_b0 (fun z => q (wb.mpr z))])
    · exact mid 1 (by rw [am_b1 (wb.mp q)])
  · exact h.elim
def T_MD_layWays : am_Sp := fun vs I L post => match vs with
  | [.ref o] => o = 0 ∧ ∃ G, WG G ∧ RM I 0 G ∧ ∀ I2 : am_I, (∀ a b, a < 8 → b < 8 → I2 7 (8 * a + b) = nI (g_wy G a b) - 1) → (∀ a, a ≠ 7 → I2 a = I a) → post none I2 L
  | _ => False
def sp_MD_layWays : Nat → am_Sp := fun i => match i with
  | 70 => T_MD_between
  | _ => am_no
set_option maxRecDepth 100000 in
theorem ok_MD_layWays : am_Ok am_SM sp_MD_layWays false k_MD_layWays 2 T_MD_layWays := by
  intro vs I L post h
  unfold T_MD_layWays at h
  split at h
  · rename_i o
    obtain ⟨rfl, G, hW, hM, h⟩ := h
    refine ⟨Nat.le_of_ble_eq_true rfl, fun G2 hG2 => ?_⟩
    have loop : ∀ d k (I1 : am_I), 64 - k = d → k ≤ 64 → (∀ a, a ≠ 7 → I1 a = I a) → (∀ a b, a < 8 → b < 8 → 8 * a + b < k → I1 7 (8 * a + b) = nI (g_wy G a b) - 1) → G2 2 [some (.ref 0), some (.int (nI k))] [] I1 L := by
      intro d
      induction d with
      | zero =>
        intro k I1 hd hk ho hv
        have e : k = 64 := by omega
        subst e
        exact hG2 [(2, [])] 50 2 _ _ _ _ (am_nt (am_nlt (Nat.le_refl 64) rfl) (h I1 (fun a b ha hb => hv a b ha hb (by omega)) ho))
      | succ d ih =>
        intro k I1 hd hk ho hv
        refine hG2 [(2, [])] 50 2 _ _ _ _ (am_nf (am_lt (by omega : k < 64) rfl) (And.intro (by decide) (And.intro (by decide) ?_)))
        refine And.intro (rfl) (Exists.intro (G) (Exists.intro (k / 8) (Exists.intro (k % 8) (And.intro (hW) (And.intro (RM_fr hM (ho 1 (by omega))) (And.intro (by omega) (And.intro (by omega) (And.intro (by rw [show (8 : Int32) = nI 8 from rfl, pk_div (by omega) (by omega) (by omega)]) (And.intro (by rw [show (8 : Int32) = nI 8 from rfl, pk_rem (by omega) (by omega) (by omega)]) (And.intro (am_vin (by omega) rfl) ?_))))))))))
        show G2 2 [some (.ref 0), some (.int (nI k + 1))] [] (am_ui I1 7 (nI k).toNatClampNeg (nI (g_wy G (k / 8) (k % 8)) - 1)) L
        rw [nI_1, nI_clamp (by omega)]
        refine ih (k + 1) _ (by omega) (by omega) (fun a ha => (am_ui_o ha).trans (ho a ha)) (fun a b ha hb hab => ?_)
        rw [am_ui_r]
        by_cases e : 8 * a + b = k
        · rw [if_pos ⟨rfl, e⟩, show k / 8 = a by omega, show k % 8 = b by omega]
        · rw [if_neg (fun z => e z.2)]
          exact hv a b ha hb (by omega)
    refine hG2 [(2, [])] 50 0 _ _ _ _ ?_
    exact loop 64 0 I (by omega) (by omega) (fun _ _ => rfl) (fun a b _ _ z => by omega)
  · exact h.elim
