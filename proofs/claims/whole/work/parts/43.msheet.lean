/-! THE REFERENCE: the sheets -/
theorem m_ln {x : Int32} (h : x = -1 ∨ x = 0 ∨ x = 1 ∨ x = 2) : x < 0 ↔ x = -1 := by
  rcases h with rfl | rfl | rfl | rfl <;> decide
theorem m_bars {I : am_I} {L : am_J} {ln : Nat → Int32} {sz : Nat → Nat} {it : Nat → Nat → Int64} (h : SHm I L ln sz it) {s : Nat} (hs : s < 4) (hl : (ln s = -1 ∨ ln s = 0 ∨ ln s = 1 ∨ ln s = 2) ∧ sz s ≤ 24) (a i n : Int32) : f_bars I (nI s) a i n = o_bars ln sz s a i n := by
  obtain ⟨h1, h2, _⟩ := h s hs
  unfold f_bars o_bars
  rw [nI_clamp (by omega), h1]
  by_cases l1 : ln s = -1
  · rw [if_pos l1, if_pos ((m_ln hl.1).mpr l1)]
  · rw [if_neg l1, if_neg (fun z => l1 ((m_ln hl.1).mp z)), h2 l1]
    by_cases l2 : ln s = a
    · have hla : ¬ ¬ ln s = a := fun z => z l2
      rw [if_neg hla, if_neg hla]
      by_cases hi : i < 0
      · rw [if_pos (Or.inl hi), if_neg (fun z => am_n0 z.1 hi)]
      · by_cases hn : n < 0
        · rw [if_pos (Or.inr (Or.inl hn)), if_neg (fun z => am_n0 z.2.1 hn)]
        · obtain ⟨k, hk, rfl⟩ := nI_of hi
          obtain ⟨m, hm, rfl⟩ := nI_of hn
          have e : ((nI (sz s)).toInt64 < (nI k).toInt64 + (nI m).toInt64) ↔ sz s < k + m := by
            rw [nI_l (by omega), nI_l hk, nI_l hm]
            have e2 : lN k + lN m = lN (k + m) := (Int64.ofNat_add k m).symm
            rw [e2]
            exact pk_lLT (by omega) (by omega)
          rw [nI_toInt hk, nI_toInt hm]
          by_cases hz : sz s < k + m
          · rw [if_pos (Or.inr (Or.inr (e.mpr hz))), if_neg (fun z => by omega)]
          · rw [if_neg (by rintro (z | z | z); exact hi z; exact hn z; exact hz (e.mp z)), if_pos ⟨by omega, by omega, by omega⟩]
    · have hla : ¬ ln s = a := l2
      rw [if_pos hla, if_pos hla]
theorem MR_sh {I I2 : am_I} {L L2 : am_J} {G K : Nat → Nat} {hk : Bool} {tn : Nat} {tt : Nat → Nat} {ln ln' : Nat → Int32} {sz sz' : Nat → Nat} {it it' : Nat → Nat → Int64} {c : Nat} (h : MR I L (G, K, hk, tn, tt, ln, sz, it) c) {s : Nat} (hI : ∀ a : Nat, a ≠ 13 → a ≠ 14 → I2 a = I a) (hl0 : ∀ u : Nat, u ≠ s → I2 13 u = I 13 u ∧ I2 14 u = I 14 u) (hL : ∀ u j : Nat, u < 4 → u ≠ s → j < 24 → L2 15 (24 * u + j) = L 15 (24 * u + j))
    (hl : (ln' s = -1 ∨ ln' s = 0 ∨ ln' s = 1 ∨ ln' s = 2) ∧ sz' s ≤ 24) (ho : ∀ u, u ≠ s → ln' u = ln u ∧ sz' u = sz u ∧ it' u = it u) (h1 : I2 13 s = ln' s) (h2 : ¬ ln' s = -1 → I2 14 s = nI (sz' s)) (h3 : ∀ j, j < 24 → L2 15 (24 * s + j) = it' s j) : MR I2 L2 (G, K, hk, tn, tt, ln', sz', it') c := by
  obtain ⟨⟨v1, v2, v3, v4, v5⟩, hM, hK, hk1, htn, htt, hMS, hSh⟩ := h
  have e1 := hI 1 (by omega) (by omega)
  refine ⟨⟨v1, v2, v3, v4, fun u hu => ?_⟩, RM_fr hM e1, fun q => RM_fr (hK q) e1, by rw [hI 0 (by omega) (by omega)]; exact hk1, by rw [hI 0 (by omega) (by omega)]; exact htn, fun j hj => by rw [hI 2 (by omega) (by omega)]; exact htt j hj, ⟨by rw [hI 0 (by omega) (by omega)]; exact hMS.1, fun q hq => by rw [hI 10 (by omega) (by omega)]; exact hMS.2 q hq⟩, fun u hu => ?_⟩
  · by_cases e : u = s
    · subst e; exact hl
    · rw [(ho u e).1, (ho u e).2.1]; exact v5 u hu
  · by_cases e : u = s
    · subst e; exact ⟨h1, h2, h3⟩
    · rw [(ho u e).1, (ho u e).2.1, (ho u e).2.2, (hl0 u e).1, (hl0 u e).2]
      exact ⟨(hSh u hu).1, (hSh u hu).2.1, fun j hj => (hL u j hu e hj).trans ((hSh u hu).2.2 j hj)⟩
theorem am_i24 {s k : Nat} (hs : s < 4) (hk : k < 24) : ((24 : Int32) * nI s + nI k).toNatClampNeg = 24 * s + k ∧ vp_in ((24 : Int32) * nI s + nI k) 96 := by
  have e : (24 : Int32) * nI s + nI k = nI (24 * s + k) := by rw [show (24 : Int32) = nI 24 from rfl, pk_mul, nI_add]
  rw [e]
  exact ⟨nI_clamp (by omega), am_vin (by omega) rfl⟩
theorem am_uja {I : am_J} {o k a b : Nat} {x : Int64} (h : ¬ (a = o ∧ b = k)) : am_uj I o k x a b = I a b := by rw [am_uj_r, if_neg h]
def T_MD_sheet : am_Sp := fun vs I L post => match vs with
  | [.ref o, .int s, .int a, .int n] => o = 0 ∧ ∃ A c, MR I L A c ∧ c + 4096 ≤ 1073741824 ∧ ∀ (I2 : am_I) (L2 : am_J) (c2 : Nat), c2 ≤ c + 4096 → MR I2 L2 (o_sheet A s a n).2 c2 → post (some (.int (o_sheet A s a n).1)) I2 L2
  | _ => False
def sp_MD_sheet : Nat → am_Sp := fun i => match i with
  | 62 => T_MD_in
  | 201 => T_MD_isSheet
  | _ => am_no
set_option maxRecDepth 100000 in
set_option maxHeartbeats 4000000 in
theorem ok_MD_sheet : am_Ok am_SM sp_MD_sheet false k_MD_sheet 5 T_MD_sheet := by
  intro vs I L post h
  unfold T_MD_sheet at h
  split at h
  · rename_i o s a n
    obtain ⟨rfl, A, c, hC, hc, h⟩ := h
    refine ⟨Nat.le_of_ble_eq_true rfl, fun G2 hG2 => ?_⟩
    obtain ⟨G, K, hk, tn, tt, ln, sz, it⟩ := A
    obtain ⟨hV, hM, hK, hk1, htn, htt, hMS, hSh⟩ := id hC
    have hW : WG G := hV.1
    have h12 := hW.1
    dsimp only [o_sheet] at h
    by_cases hs : 0 ≤ s ∧ s < 4
    · by_cases ha : 0 ≤ a ∧ a < 3
      · by_cases hn : 24 < n
        · rw [if_pos (Or.inr (Or.inr hn))] at h
          exact hG2 [] 100 0 _ _ _ _ (am_f (am_bp hs) (am_f (am_bp ((m_in (hi := 2) (hi1 := 3) rfl rfl).mpr ha)) (am_nf hn (h I L c (by omega) hC))))
        · rw [if_neg (by rintro (q | q | q); exact q hs; exact q ha; exact hn q)] at h
          by_cases hn0 : n < 0
          · rw [if_pos hn0] at h
            exact hG2 [] 100 0 _ _ _ _ (am_f (am_bp hs) (am_f (am_bp ((m_in (hi := 2) (hi1 := 3) rfl rfl).mpr ha)) (am_nt hn (am_nf hn0 (h I L c (by omega) hC)))))
          · rw [if_neg hn0] at h
            obtain ⟨x, hx, rfl⟩ := am_rng (n := 4) (by omega) hs.1 hs.2
            obtain ⟨y, hy, rfl⟩ := am_rng (n := 25) (by omega) (Int32.not_lt.mp hn0) (Int32.lt_of_le_of_lt (Int32.not_lt.mp hn) (by decide))
            have cx : (nI x).toNatClampNeg = x := nI_clamp (by omega)
            rw [cx, nI_clamp (by omega)] at h
            have vx : vp_in (nI x) 4 := am_vin hx rfl
            have loop : ∀ d k (L1 : am_J), 24 - k = d → k ≤ 24 → (∀ b : Nat, (b < 24 * x ∨ 24 * x + 24 ≤ b) → L1 15 b = L 15 b) → (∀ j, j < k → L1 15 (24 * x + j) = 0) → G2 51 [some (.ref 0), some (.int (nI x)), some (.int a), some (.int (nI y)), some (.int (nI k))] [] (am_ui (am_ui I 13 x a) 14 x (nI y)) L1 := by
              intro d
              induction d with
              | zero =>
                intro k L1 hd hk2 ho hz
                have e : k = 24 := by omega
                subst e
                refine hG2 [] 100 51 _ _ _ _ (am_nt (am_nlt (Nat.le_refl 24) rfl) ?_)
                refine h _ L1 c (by omega) (MR_sh (s := x) hC (fun q h1 h2 => by rw [am_ui_o h2, am_ui_o h1]) (fun u hu => ⟨?_, ?_⟩) (fun u j hu hne hj => ho _ (by omega)) ?_ (fun u hu => ⟨o_upd_n hu, o_upd_n hu, o_upd_n hu⟩) ?_ (fun _ => ?_) (fun j hj => ?_))
                · rw [am_uo (by omega), am_uk hu]
                · rw [am_uk hu, am_uo (by omega)]
                · rw [o_upd_e, o_upd_e]; exact ⟨Or.inr (am_lane ha), by omega⟩
                · rw [o_upd_e, am_uo (by omega)]; exact am_ui_e
                · rw [o_upd_e]; exact am_ui_e
                · rw [o_upd_e]; exact hz j hj
              | succ d ih =>
                intro k L1 hd hk2 ho hz
                obtain ⟨ix, iv⟩ := am_i24 hx (show k < 24 by omega)
                refine hG2 [(51, [])] 100 51 _ _ _ _ (am_nf (am_lt (show k < 24 by omega) rfl) (And.intro iv ?_))
                show G2 51 [some (.ref 0), some (.int (nI x)), some (.int a), some (.int (nI y)), some (.int (nI k + 1))] [] (am_ui (am_ui I 13 x a) 14 x (nI y)) (am_uj L1 15 ((24 : Int32) * nI x + nI k).toNatClampNeg 0)
                rw [ix, nI_1]
                refine ih (k + 1) _ (by omega) (by omega) (fun b hb => (am_uja (by omega)).trans (ho b hb)) (fun j hj => ?_)
                by_cases e : j = k
                · subst e; exact am_uj_e
                · exact (am_uja (by omega)).trans (hz j (by omega))
            refine hG2 [(51, [])] 100 0 _ _ _ _ (am_f (am_bp hs) (am_f (am_bp ((m_in (hi := 2) (hi1 := 3) rfl rfl).mpr ha)) (am_nt hn (am_nt hn0 (And.intro vx (And.intro vx ?_))))))
            show G2 51 [some (.ref 0), some (.int (nI x)), some (.int a), some (.int (nI y)), some (.int (nI 0))] [] (am_ui (am_ui I 13 (nI x).toNatClampNeg a) 14 (nI x).toNatClampNeg (nI y)) L
            rw [cx]
            exact loop 24 0 L (by omega) (by omega) (fun _ _ => rfl) (fun j hj => by omega)
      · rw [if_pos (Or.inr (Or.inl ha))] at h
        exact hG2 [] 100 0 _ _ _ _ (am_f (am_bp hs) (am_t (am_bn (fun z => ha ((m_in (hi := 2) (hi1 := 3) rfl rfl).mp z))) (h I L c (by omega) hC)))
    · rw [if_pos (Or.inl hs)] at h
      exact hG2 [] 100 0 _ _ _ _ (am_t (am_bn hs) (h I L c (by omega) hC))
  · exact h.elim
def T_MD_drop : am_Sp := fun vs I L post => match vs with
  | [.ref o, .int s] => o = 0 ∧ ∃ A c, MR I L A c ∧ c + 4096 ≤ 1073741824 ∧ ∀ (I2 : am_I) (L2 : am_J) (c2 : Nat), c2 ≤ c + 4096 → MR I2 L2 (o_drop A s).2 c2 → post (some (.int (o_drop A s).1)) I2 L2
  | _ => False
def sp_MD_drop : Nat → am_Sp := fun i => match i with
  | 201 => T_MD_isSheet
  | _ => am_no
set_option maxRecDepth 100000 in
set_option maxHeartbeats 4000000 in
theorem ok_MD_drop : am_Ok am_SM sp_MD_drop false k_MD_drop 2 T_MD_drop := by
  intro vs I L post h
  unfold T_MD_drop at h
  split at h
  · rename_i o s
    obtain ⟨rfl, A, c, hC, hc, h⟩ := h
    refine ⟨Nat.le_of_ble_eq_true rfl, fun G2 hG2 => ?_⟩
    obtain ⟨G, K, hk, tn, tt, ln, sz, it⟩ := A
    obtain ⟨hV, hM, hK, hk1, htn, htt, hMS, hSh⟩ := id hC
    have hW : WG G := hV.1
    have h12 := hW.1
    dsimp only [o_drop] at h
    by_cases hs : 0 ≤ s ∧ s < 4
    · rw [if_neg (fun q => q hs)] at h
      obtain ⟨x, hx, rfl⟩ := am_rng (n := 4) (by omega) hs.1 hs.2
      have cx : (nI x).toNatClampNeg = x := nI_clamp (by omega)
      rw [cx] at h
      have vx : vp_in (nI x) 4 := am_vin hx rfl
      obtain ⟨q1, q2, q3⟩ := hSh x hx
      have hl := hV.2.2.2.2 x hx
      have rd : I 13 (nI x).toNatClampNeg = ln x := by rw [cx]; exact q1
      refine hG2 [] 100 0 _ _ _ _ (am_nt (am_bp hs) (And.intro vx ?_))
      by_cases l1 : ln x = -1
      · rw [if_pos l1] at h
        exact am_nf (by rw [rd]; exact (m_ln hl.1).mpr l1) (h I L c (by omega) hC)
      · rw [if_neg l1] at h
        refine am_nt (by rw [rd]; exact fun z => l1 ((m_ln hl.1).mp z)) (And.intro vx (And.intro vx ?_))
        show post (some (.int (am_ui I 13 (nI x).toNatClampNeg (-1) 14 (nI x).toNatClampNeg))) (am_ui I 13 (nI x).toNatClampNeg (-1)) L
        rw [cx, am_uo (by omega), q2 l1]
        refine h _ L c (by omega) (MR_sh (s := x) hC (fun q h1 h2 => am_ui_o h1) (fun u hu => ⟨am_uk hu, am_uo (by omega)⟩) (fun u j hu hne hj => rfl) ?_ (fun u hu => ⟨o_upd_n hu, rfl, rfl⟩) ?_ (fun z => ?_) q3)
        · rw [o_upd_e]; exact ⟨Or.inl rfl, hl.2⟩
        · rw [o_upd_e]; exact am_ui_e
        · rw [o_upd_e] at z; exact absurd rfl z
    · rw [if_pos hs] at h
      exact hG2 [] 100 0 _ _ _ _ (am_nf (am_bn hs) (h I L c (by omega) hC))
  · exact h.elim
def T_MD_item : am_Sp := fun vs I L post => match vs with
  | [.ref o, .int s, .int a, .int i, .long v] => o = 0 ∧ ∃ A c, MR I L A c ∧ c + 4096 ≤ 1073741824 ∧ ∀ (I2 : am_I) (L2 : am_J) (c2 : Nat), c2 ≤ c + 4096 → MR I2 L2 (o_item A s a i v).2 c2 → post (some (.int (o_item A s a i v).1)) I2 L2
  | _ => False
def sp_MD_item : Nat → am_Sp := fun i => match i with
  | 62 => T_MD_in
  | 201 => T_MD_isSheet
  | 206 => T_MD_bars
  | 210 => T_MD_cutTo
  | _ => am_no
set_option maxRecDepth 100000 in
set_option maxHeartbeats 4000000 in
theorem ok_MD_item : am_Ok am_SM sp_MD_item false k_MD_item 7 T_MD_item := by
  intro vs I L post h
  unfold T_MD_item at h
  split at h
  · rename_i o s a i v
    obtain ⟨rfl, A, c, hC, hc, h⟩ := h
    refine ⟨Nat.le_of_ble_eq_true rfl, fun G2 hG2 => ?_⟩
    obtain ⟨G, K, hk, tn, tt, ln, sz, it⟩ := A
    obtain ⟨hV, hM, hK, hk1, htn, htt, hMS, hSh⟩ := id hC
    have hW : WG G := hV.1
    have h12 := hW.1
    dsimp only [o_item] at h
    by_cases hs : 0 ≤ s ∧ s < 4
    · by_cases ha : 0 ≤ a ∧ a < 3
      · rw [if_neg (by rintro (q | q); exact q hs; exact q ha)] at h
        obtain ⟨x, hx, rfl⟩ := am_rng (n := 4) (by omega) hs.1 hs.2
        have cx : (nI x).toNatClampNeg = x := nI_clamp (by omega)
        rw [cx] at h
        have hl := hV.2.2.2.2 x hx
        have hb := m_bars hSh hx hl a i 1
        refine hG2 [] 100 0 _ _ _ _ (am_f (am_bp hs) (am_nt (am_bp ((m_in (hi := 2) (hi1 := 3) rfl rfl).mpr ha)) (And.intro rfl (And.intro hs ?_))))
        rw [hb]
        by_cases h0 : o_bars ln sz x a i 1 = 0
        · rw [if_neg (fun q => q h0)] at h
          have l1 : ¬ ln x = -1 := fun z => by
            have e : o_bars ln sz x a i 1 = -11 := by unfold o_bars; rw [if_pos z]
            rw [e] at h0; exact absurd h0 (by decide)
          have l2 : ln x = a := Classical.byContradiction (fun z => by
            have e : o_bars ln sz x a i 1 = -12 := by unfold o_bars; rw [if_neg l1, if_pos z]
            rw [e] at h0; exact absurd h0 (by decide))
          have hr := (o_bars_ran l1 l2).mp h0
          obtain ⟨k, hk2, rfl⟩ := nI_of (am_n0 hr.1)
          have e1 : (1 : Int32).toInt = 1 := rfl
          rw [nI_toInt hk2, e1] at hr
          obtain ⟨ix, iv⟩ := am_i24 hx (show k < 24 by omega)
          rw [nI_clamp hk2] at h
          refine am_t h0 (And.intro iv ?_)
          show post (some (.int 1)) I (am_uj L 15 ((24 : Int32) * nI x + nI k).toNatClampNeg (f_cut a v))
          rw [ix]
          obtain ⟨q1, q2, q3⟩ := hSh x hx
          refine h I _ c (by omega) (MR_sh (s := x) hC (fun q h1 h2 => rfl) (fun u hu => ⟨rfl, rfl⟩) (fun u j hu hne hj => am_uja (by omega)) hl (fun u hu => ⟨rfl, rfl, o_upd_n hu⟩) q1 q2 (fun j hj => ?_))
          rw [o_upd_e]
          by_cases e : j = k
          · subst e; rw [o_upd_e]; exact am_uj_e
          · rw [o_upd_n e]; exact (am_uja (by omega)).trans (q3 j hj)
        · rw [if_pos h0] at h
          exact am_f h0 (h I L c (by omega) hC)
      · rw [if_pos (Or.inr ha)] at h
        exact hG2 [] 100 0 _ _ _ _ (am_f (am_bp hs) (am_nf (am_bn (fun z => ha ((m_in (hi := 2) (hi1 := 3) rfl rfl).mp z))) (h I L c (by omega) hC)))
    · rw [if_pos (Or.inl hs)] at h
      exact hG2 [] 100 0 _ _ _ _ (am_t (am_bn hs) (h I L c (by omega) hC))
  · exact h.elim
