/-! THE REFERENCE: the simple calls -/
theorem m_in {x hi hi1 : Int32} {h : Int64} (e : h = hi.toInt64) (e1 : hi1.toInt = hi.toInt + 1) : ((0 : Int64) ≤ x.toInt64 ∧ x.toInt64 ≤ h) ↔ (0 ≤ x ∧ x < hi1) := by
  have h0 : (0 : Int64) = (0 : Int32).toInt64 := rfl
  rw [e, h0, fw_le, fw_le, show x ≤ hi ↔ x < hi1 from by rw [Int32.le_iff_toInt_le, Int32.lt_iff_toInt_lt, e1]; omega]
theorem m_inb {x hi hi1 : Int32} {h : Int64} (e : h = hi.toInt64) (e1 : hi1.toInt = hi.toInt + 1) : am_b ((0 : Int64) ≤ x.toInt64 ∧ x.toInt64 ≤ h) = am_b (0 ≤ x ∧ x < hi1) := am_bc (m_in e e1)
theorem m_way {w : Int32} {g : Nat} (hg : g ≤ 12) : am_b (0 ≤ w ∧ w ≤ nI g - 1) = am_b (0 ≤ w ∧ w < nI g) := by
  apply am_bc
  constructor
  · rintro ⟨a, b⟩
    refine ⟨a, ?_⟩
    obtain ⟨k, hk, rfl⟩ := nI_of (Int32.not_lt.mpr a)
    cases g with
    | zero => exact absurd (Int32.le_trans a b) (by decide)
    | succ g =>
      rw [nI_pred, nI_leI hk (by omega)] at b
      exact nI_lt (by omega) (by omega)
  · rintro ⟨a, b⟩
    refine ⟨a, ?_⟩
    obtain ⟨k, hk, rfl⟩ := am_rng (n := g) (by omega) a b
    cases g with
    | zero => omega
    | succ g => rw [nI_pred]; exact nI_le (by omega) (by omega)
theorem m_has (m : Nat) {k : Nat} (hk : k < 32) : am_b (f_h (nI m) (nI k) = 1) = am_b (m.testBit k = true) := by
  rw [f_h_nI m hk]
  exact am_bc am_bo
theorem MR_1 {I I2 : am_I} {L : am_J} {G K G' K' : Nat → Nat} {hk hk' : Bool} {tn : Nat} {tt : Nat → Nat} {ln : Nat → Int32} {sz : Nat → Nat} {it : Nat → Nat → Int64} {c : Nat} (h : MR I L (G, K, hk, tn, tt, ln, sz, it) c) (hI : ∀ a : Nat, a ≠ 0 → a ≠ 1 → I2 a = I a) (h0 : ∀ k : Nat, k ≠ 1 → I2 0 k = I 0 k) (w1 : WG G') (w2 : WG K') (r1 : RM I2 0 G') (r2 : hk' = true → RM I2 45 K') (hb : I2 0 1 = am_b (hk' = true)) : MR I2 L (G', K', hk', tn, tt, ln, sz, it) c := by
  obtain ⟨hV, hM, hK, hk1, htn, htt, hMS, hSh⟩ := h
  refine ⟨⟨w1, w2, hV.2.2⟩, r1, r2, hb, by rw [h0 3 (by omega)]; exact htn, fun j hj => by rw [hI 2 (by omega) (by omega)]; exact htt j hj, ⟨by rw [h0 20 (by omega)]; exact hMS.1, fun s hs => by rw [hI 10 (by omega) (by omega)]; exact hMS.2 s hs⟩, fun s hs => ?_⟩
  rw [hI 13 (by omega) (by omega), hI 14 (by omega) (by omega)]
  exact hSh s hs
def T_MD_told : am_Sp := fun vs I L post => match vs with
  | [.ref o, .int a, .int x] => o = 0 ∧ ∃ A c, MR I L A c ∧ c + 4096 ≤ 1073741824 ∧ ∀ (I2 : am_I) (L2 : am_J) (c2 : Nat), c2 ≤ c + 4096 → MR I2 L2 (o_told A a x).2 c2 → post (some (.int (o_told A a x).1)) I2 L2
  | _ => False
def sp_MD_told : Nat → am_Sp := fun i => match i with
  | 62 => T_MD_in
  | 78 => T_MD_isWay
  | _ => am_no
set_option maxRecDepth 100000 in
set_option maxHeartbeats 4000000 in
theorem ok_MD_told : am_Ok am_SM sp_MD_told false k_MD_told 3 T_MD_told := by
  intro vs I L post h
  unfold T_MD_told at h
  split at h
  · rename_i o a x
    obtain ⟨rfl, A, c, hC, hc, h⟩ := h
    refine ⟨Nat.le_of_ble_eq_true rfl, fun G2 hG2 => ?_⟩
    obtain ⟨G, K, hk, tn, tt, ln, sz, it⟩ := A
    obtain ⟨hV, hM, hK, hk1, htn, htt, hMS, hSh⟩ := id hC
    have hW : WG G := hV.1
    have h12 := hW.1
    dsimp only [o_told] at h
    have w : ∀ i, i < 45 → I 1 i = nI (G i) := RM_i hM
    by_cases ha : 0 ≤ a ∧ a < nI (G 0)
    · have hwy : am_b (0 ≤ a ∧ a ≤ I 1 0 - 1) = 1 := by rw [w 0 (by omega), m_way h12, am_b1 ha]
      by_cases hx : 0 ≤ x ∧ x < 4
      · rw [if_neg (by rintro (q | q); exact q ha; exact q hx)] at h
        obtain ⟨k, hk2, rfl⟩ := am_rng (n := G 0) (by omega) ha.1 ha.2
        rw [nI_clamp (by omega)] at h
        refine hG2 [(22, [])] 100 0 _ _ _ _ (And.intro rfl (am_f (by rw [hwy]; decide) ?_))
        refine am_nt (am_bp ((m_in (hi := 3) (hi1 := 4) rfl rfl).mpr hx)) ?_
        by_cases x0 : x = 0
        · rw [if_pos x0] at h
          refine hG2 [] 100 22 _ _ _ _ (am_nf x0 (And.intro (am_ixv (a := 1) (by omega)) ?_))
          show post (some (.int (I 1 (nI 1 + nI k).toNatClampNeg))) I L
          rw [am_ix (by omega), w _ (by omega)]
          exact (h I L c (by omega) hC)
        · rw [if_neg x0] at h
          by_cases x1 : x = 1
          · rw [if_pos x1] at h
            refine hG2 [] 100 22 _ _ _ _ (am_nt x0 (am_nf x1 (And.intro (am_ixv (a := 13) (by omega)) ?_)))
            show post (some (.int (I 1 (nI 13 + nI k).toNatClampNeg))) I L
            rw [am_ix (by omega), w _ (by omega)]
            exact (h I L c (by omega) hC)
          · rw [if_neg x1] at h
            by_cases x2 : x = 2
            · rw [if_pos x2] at h
              refine hG2 [] 100 22 _ _ _ _ (am_nt x0 (am_nt x1 (am_nf x2 (And.intro (am_vin (n := 25) (by decide) rfl) ?_))))
              show post (some (.int (f_h (I 1 25) (nI k)))) I L
              rw [w 25 (by omega), f_h_nI _ (by omega)]
              exact (h I L c (by omega) hC)
            · rw [if_neg x2] at h
              refine hG2 [] 100 22 _ _ _ _ (am_nt x0 (am_nt x1 (am_nt x2 (And.intro (am_vin (n := 44) (by decide) rfl) ?_))))
              show post (some (.int (f_h (I 1 44) (nI k)))) I L
              rw [w 44 (by omega), f_h_nI _ (by omega)]
              exact (h I L c (by omega) hC)
      · rw [if_pos (Or.inr hx)] at h
        refine hG2 [] 100 0 _ _ _ _ (And.intro rfl (am_f (by rw [hwy]; decide) ?_))
        exact am_nf (am_bn (fun z => hx ((m_in (hi := 3) (hi1 := 4) rfl rfl).mp z))) (h I L c (by omega) hC)
    · have hwy : am_b (0 ≤ a ∧ a ≤ I 1 0 - 1) = 0 := by rw [w 0 (by omega), m_way h12, am_b0 ha]
      rw [if_pos (Or.inl ha)] at h
      exact hG2 [] 100 0 _ _ _ _ (And.intro rfl (am_t hwy (h I L c (by omega) hC)))
  · exact h.elim
def T_MD_stone : am_Sp := fun vs I L post => match vs with
  | [.ref o, .int p, .int s, .int a] => o = 0 ∧ ∃ A c, MR I L A c ∧ c + 4096 ≤ 1073741824 ∧ ∀ (I2 : am_I) (L2 : am_J) (c2 : Nat), c2 ≤ c + 4096 → MR I2 L2 (o_stone A p s a).2 c2 → post (some (.int (o_stone A p s a).1)) I2 L2
  | _ => False
def sp_MD_stone : Nat → am_Sp := fun i => match i with
  | 66 => T_MD_isPlace
  | 70 => T_MD_between
  | 74 => T_MD_ones
  | 78 => T_MD_isWay
  | _ => am_no
set_option maxRecDepth 100000 in
set_option maxHeartbeats 4000000 in
theorem ok_MD_stone : am_Ok am_SM sp_MD_stone false k_MD_stone 4 T_MD_stone := by
  intro vs I L post h
  unfold T_MD_stone at h
  split at h
  · rename_i o p s a
    obtain ⟨rfl, A, c, hC, hc, h⟩ := h
    refine ⟨Nat.le_of_ble_eq_true rfl, fun G2 hG2 => ?_⟩
    obtain ⟨G, K, hk, tn, tt, ln, sz, it⟩ := A
    obtain ⟨hV, hM, hK, hk1, htn, htt, hMS, hSh⟩ := id hC
    have hW : WG G := hV.1
    have h12 := hW.1
    dsimp only [o_stone] at h
    have w : ∀ i, i < 45 → I 1 i = nI (G i) := RM_i hM
    by_cases hp : 0 ≤ p ∧ p < 8
    · by_cases hs : 0 ≤ s ∧ s < 8
      · by_cases ha : 0 ≤ a ∧ a < nI (G 0)
        · have hwy : am_b (0 ≤ a ∧ a ≤ I 1 0 - 1) = 1 := by rw [w 0 (by omega), m_way h12, am_b1 ha]
          rw [if_neg (by rintro (q | q | q); exact q hp; exact q hs; exact q ha)] at h
          obtain ⟨x, hx, rfl⟩ := am_rng (n := 8) (by omega) hp.1 hp.2
          obtain ⟨y, hy, rfl⟩ := am_rng (n := 8) (by omega) hs.1 hs.2
          obtain ⟨k, hk2, rfl⟩ := am_rng (n := G 0) (by omega) ha.1 ha.2
          have cx : (nI x).toNatClampNeg = x := nI_clamp (by omega)
          have hle := g_wy_le G x y
          rw [cx, nI_clamp (by omega), nI_clamp (by omega)] at h
          refine hG2 [] 100 0 _ _ _ _ (am_f (am_bp hp) (am_f (am_bp hs) (And.intro rfl (am_nt (by rw [hwy]; decide) (And.intro (rfl) (Exists.intro (G) (Exists.intro (x) (Exists.intro (y) (And.intro (hW) (And.intro (hM) (And.intro (hx) (And.intro (hy) (And.intro (rfl) (And.intro (rfl) (?_)))))))))))))))
          by_cases hj : g_wy G x y = 0
          · rw [if_pos hj] at h
            exact am_nf ((nI_m1lt (by omega)).mpr hj) (h I L c (by omega) hC)
          · rw [if_neg hj] at h
            have h26 : g_set (G 26) x < 2 ^ 8 := g_set_lt hW.2.2.2.2.2.2.1 hx
            have i27 : ((27 : Int32) + nI x).toNatClampNeg = 27 + x := am_ix (a := 27) (by omega)
            have i35 : ((35 : Int32) + nI x).toNatClampNeg = 35 + x := am_ix (a := 35) (by omega)
            have e : ∀ i, g_put (g_put (g_put G (27 + x) y) (35 + x) k) 26 (g_set (G 26) x) i = if i = 26 then g_set (G 26) x else if i = 35 + x then k else if i = 27 + x then y else G i := fun i => rfl
            have fin : ∀ X : am_I, X = am_ui (am_ui (am_ui I 1 (27 + x) (nI y)) 1 (35 + x) (nI k)) 1 26 (nI (g_set (G 26) x)) → post (some (.int (nI (g_pc (g_set (G 26) x) 12)))) X L := by
              intro X hX
              refine h X L c (by omega) (MR_w hC (WG_side hW hx hy hk2) (fun i hi => ?_) (fun i hi => ?_) (fun a ha => ?_))
              · rw [hX, e]
                by_cases i26 : i = 26
                · subst i26; rw [am_ui_e, if_pos rfl]
                · rw [am_uk i26, if_neg i26]
                  by_cases i35b : i = 35 + x
                  · subst i35b; rw [am_ui_e, if_pos rfl]
                  · rw [am_uk i35b, if_neg i35b]
                    by_cases i27b : i = 27 + x
                    · subst i27b; rw [am_ui_e, if_pos rfl]
                    · rw [am_uk i27b, if_neg i27b]; exact w i hi
              · rw [hX, am_uk (by omega), am_uk (by omega), am_uk (by omega)]
              · rw [hX, am_ui_o ha, am_ui_o ha, am_ui_o ha]
            have rd26 : ∀ u v : Int32, am_ui (am_ui I 1 (27 + x) u) 1 (35 + x) v 1 26 = nI (G 26) := fun u v => by rw [am_uk (by omega), am_uk (by omega)]; exact w 26 (by omega)
            have hXX : am_ui (am_ui (am_ui I 1 ((27 : Int32) + nI x).toNatClampNeg (nI y)) 1 ((35 : Int32) + nI x).toNatClampNeg (nI k)) 1 26 (am_ui (am_ui I 1 ((27 : Int32) + nI x).toNatClampNeg (nI y)) 1 ((35 : Int32) + nI x).toNatClampNeg (nI k) 1 26 ||| ((1 : Int32) <<< (nI x &&& 31))) = am_ui (am_ui (am_ui I 1 (27 + x) (nI y)) 1 (35 + x) (nI k)) 1 26 (nI (g_set (G 26) x)) := by
              rw [i27, i35, rd26, g_set_I _ (by omega)]
            refine am_nt (fun z => hj ((nI_m1lt (by omega)).mp z)) (And.intro (am_ixv (a := 27) (by omega)) (And.intro (am_ixv (a := 35) (by omega)) (And.intro (am_vin (n := 26) (by decide) rfl) (And.intro (am_vin (n := 26) (by decide) rfl) (And.intro (am_vin (n := 26) (by decide) rfl) (Exists.intro (g_set (G 26) x) (And.intro ?_ (fin _ hXX))))))))
            have := congrFun (congrFun hXX 1) 26
            rw [am_ui_e (x := nI (g_set (G 26) x))] at this
            exact this
        · have hwy : am_b (0 ≤ a ∧ a ≤ I 1 0 - 1) = 0 := by rw [w 0 (by omega), m_way h12, am_b0 ha]
          rw [if_pos (Or.inr (Or.inr ha))] at h
          exact hG2 [] 100 0 _ _ _ _ (am_f (am_bp hp) (am_f (am_bp hs) (And.intro rfl (am_nf hwy (h I L c (by omega) hC)))))
      · rw [if_pos (Or.inr (Or.inl hs))] at h
        exact hG2 [] 100 0 _ _ _ _ (am_f (am_bp hp) (am_t (am_bn hs) (h I L c (by omega) hC)))
    · rw [if_pos (Or.inl hp)] at h
      exact hG2 [] 100 0 _ _ _ _ (am_t (am_bn hp) (h I L c (by omega) hC))
  · exact h.elim
def T_MD_strike : am_Sp := fun vs I L post => match vs with
  | [.ref o, .int p] => o = 0 ∧ ∃ A c, MR I L A c ∧ c + 4096 ≤ 1073741824 ∧ ∀ (I2 : am_I) (L2 : am_J) (c2 : Nat), c2 ≤ c + 4096 → MR I2 L2 (o_strike A p).2 c2 → post (some (.int (o_strike A p).1)) I2 L2
  | _ => False
def sp_MD_strike : Nat → am_Sp := fun i => match i with
  | 66 => T_MD_isPlace
  | 74 => T_MD_ones
  | 83 => T_MD_has
  | _ => am_no
set_option maxRecDepth 100000 in
set_option maxHeartbeats 4000000 in
theorem ok_MD_strike : am_Ok am_SM sp_MD_strike false k_MD_strike 2 T_MD_strike := by
  intro vs I L post h
  unfold T_MD_strike at h
  split at h
  · rename_i o p
    obtain ⟨rfl, A, c, hC, hc, h⟩ := h
    refine ⟨Nat.le_of_ble_eq_true rfl, fun G2 hG2 => ?_⟩
    obtain ⟨G, K, hk, tn, tt, ln, sz, it⟩ := A
    obtain ⟨hV, hM, hK, hk1, htn, htt, hMS, hSh⟩ := id hC
    have hW : WG G := hV.1
    have h12 := hW.1
    dsimp only [o_strike] at h
    have w : ∀ i, i < 45 → I 1 i = nI (G i) := RM_i hM
    by_cases hp : 0 ≤ p ∧ p < 8
    · rw [if_neg (fun q => q hp)] at h
      obtain ⟨x, hx, rfl⟩ := am_rng (n := 8) (by omega) hp.1 hp.2
      rw [nI_clamp (by omega)] at h
      have hst0 : am_b (f_h (I 1 26) (nI x) = 1) = am_b ((G 26).testBit x = true) := by rw [w 26 (by omega), m_has _ (by omega)]
      refine hG2 [] 100 0 _ _ _ _ (am_nt (am_bp hp) (And.intro (am_vin (n := 26) (by decide) rfl) ?_))
      by_cases hst : (G 26).testBit x = true
      · rw [if_neg (fun q => q hst)] at h
        have h26 : g_clr (G 26) x < 2 ^ 8 := g_clr_lt hW.2.2.2.2.2.2.1 hx
        have hXX : am_ui I 1 26 (I 1 26 &&& (((1 : Int32) <<< (nI x &&& 31)) ^^^ (-1))) = am_ui I 1 26 (nI (g_clr (G 26) x)) := by rw [w 26 (by omega), g_clr_I _ (by omega)]
        have e : ∀ i, g_put G 26 (g_clr (G 26) x) i = if i = 26 then g_clr (G 26) x else G i := fun i => rfl
        have fin : ∀ X : am_I, X = am_ui I 1 26 (nI (g_clr (G 26) x)) → post (some (.int (nI (g_pc (g_clr (G 26) x) 12)))) X L := by
          intro X hX
          refine h X L c (by omega) (MR_w hC (WG_clr hW hx) (fun i hi => ?_) (fun i hi => ?_) (fun a ha => ?_))
          · rw [hX, e]
            by_cases i26 : i = 26
            · subst i26; rw [am_ui_e, if_pos rfl]
            · rw [am_uk i26, if_neg i26]; exact w i hi
          · rw [hX, am_uk (by omega)]
          · rw [hX, am_ui_o ha]
        refine am_nt (show ¬ am_b (f_h (I 1 26) (nI x) = 1) = 0 by rw [hst0, am_b1 hst]; decide) (And.intro (am_vin (n := 26) (by decide) rfl) (And.intro (am_vin (n := 26) (by decide) rfl) (And.intro (am_vin (n := 26) (by decide) rfl) (Exists.intro (g_clr (G 26) x) (And.intro ?_ (fin _ hXX))))))
        have := congrFun (congrFun hXX 1) 26
        rw [am_ui_e (x := nI (g_clr (G 26) x))] at this
        exact this
      · rw [if_pos hst] at h
        exact am_nf (show am_b (f_h (I 1 26) (nI x) = 1) = 0 by rw [hst0, am_b0 hst]) (h I L c (by omega) hC)
    · rw [if_pos hp] at h
      exact hG2 [] 100 0 _ _ _ _ (am_nf (am_bn hp) (h I L c (by omega) hC))
  · exact h.elim
def T_MD_of : am_Sp := fun vs I L post => match vs with
  | [.ref o, .int p, .int x] => o = 0 ∧ ∃ A c, MR I L A c ∧ c + 4096 ≤ 1073741824 ∧ ∀ (I2 : am_I) (L2 : am_J) (c2 : Nat), c2 ≤ c + 4096 → MR I2 L2 (o_of A p x).2 c2 → post (some (.int (o_of A p x).1)) I2 L2
  | _ => False
def sp_MD_of : Nat → am_Sp := fun i => match i with
  | 62 => T_MD_in
  | 66 => T_MD_isPlace
  | 83 => T_MD_has
  | _ => am_no
set_option maxRecDepth 100000 in
set_option maxHeartbeats 4000000 in
theorem ok_MD_of : am_Ok am_SM sp_MD_of false k_MD_of 3 T_MD_of := by
  intro vs I L post h
  unfold T_MD_of at h
  split at h
  · rename_i o p x
    obtain ⟨rfl, A, c, hC, hc, h⟩ := h
    refine ⟨Nat.le_of_ble_eq_true rfl, fun G2 hG2 => ?_⟩
    obtain ⟨G, K, hk, tn, tt, ln, sz, it⟩ := A
    obtain ⟨hV, hM, hK, hk1, htn, htt, hMS, hSh⟩ := id hC
    have hW : WG G := hV.1
    have h12 := hW.1
    dsimp only [o_of] at h
    have w : ∀ i, i < 45 → I 1 i = nI (G i) := RM_i hM
    by_cases hp : 0 ≤ p ∧ p < 8
    · by_cases hx : 0 ≤ x ∧ x < 2
      · rw [if_neg (by rintro (q | q); exact q hp; exact q hx)] at h
        obtain ⟨y, hy, rfl⟩ := am_rng (n := 8) (by omega) hp.1 hp.2
        rw [nI_clamp (by omega)] at h
        have hst0 : am_b (f_h (I 1 26) (nI y) = 1) = am_b ((G 26).testBit y = true) := by rw [w 26 (by omega), m_has _ (by omega)]
        refine hG2 [] 100 0 _ _ _ _ (am_f (am_bp hp) ?_)
        refine am_nt (am_bp ((m_in (hi := 1) (hi1 := 2) rfl rfl).mpr hx)) (And.intro (am_vin (n := 26) (by decide) rfl) ?_)
        by_cases hst : (G 26).testBit y = true
        · rw [if_neg (fun q => q hst)] at h
          refine am_nt (show ¬ am_b (f_h (I 1 26) (nI y) = 1) = 0 by rw [hst0, am_b1 hst]; decide) ?_
          by_cases h0 : x = 0
          · rw [if_pos h0] at h
            refine am_nf h0 (And.intro (am_ixv (a := 27) (by omega)) ?_)
            show post (some (.int (I 1 (nI 27 + nI y).toNatClampNeg))) I L
            rw [am_ix (by omega), w _ (by omega)]
            exact (h I L c (by omega) hC)
          · rw [if_neg h0] at h
            refine am_nt h0 (And.intro (am_ixv (a := 35) (by omega)) ?_)
            show post (some (.int (I 1 (nI 35 + nI y).toNatClampNeg))) I L
            rw [am_ix (by omega), w _ (by omega)]
            exact (h I L c (by omega) hC)
        · rw [if_pos hst] at h
          exact am_nf (show am_b (f_h (I 1 26) (nI y) = 1) = 0 by rw [hst0, am_b0 hst]) (h I L c (by omega) hC)
      · rw [if_pos (Or.inr hx)] at h
        refine hG2 [] 100 0 _ _ _ _ (am_f (am_bp hp) ?_)
        exact am_nf (am_bn (fun z => hx ((m_in (hi := 1) (hi1 := 2) rfl rfl).mp z))) (h I L c (by omega) hC)
    · rw [if_pos (Or.inl hp)] at h
      exact hG2 [] 100 0 _ _ _ _ (am_t (am_bn hp) (h I L c (by omega) hC))
  · exact h.elim
def T_MD_home : am_Sp := fun vs I L post => match vs with
  | [.ref o, .int p] => o = 0 ∧ ∃ A c, MR I L A c ∧ c + 4096 ≤ 1073741824 ∧ ∀ (I2 : am_I) (L2 : am_J) (c2 : Nat), c2 ≤ c + 4096 → MR I2 L2 (o_home A p).2 c2 → post (some (.int (o_home A p).1)) I2 L2
  | _ => False
def sp_MD_home : Nat → am_Sp := fun i => match i with
  | 66 => T_MD_isPlace
  | _ => am_no
set_option maxRecDepth 100000 in
set_option maxHeartbeats 4000000 in
theorem ok_MD_home : am_Ok am_SM sp_MD_home false k_MD_home 3 T_MD_home := by
  intro vs I L post h
  unfold T_MD_home at h
  split at h
  · rename_i o p
    obtain ⟨rfl, A, c, hC, hc, h⟩ := h
    refine ⟨Nat.le_of_ble_eq_true rfl, fun G2 hG2 => ?_⟩
    obtain ⟨G, K, hk, tn, tt, ln, sz, it⟩ := A
    obtain ⟨hV, hM, hK, hk1, htn, htt, hMS, hSh⟩ := id hC
    have hW : WG G := hV.1
    have h12 := hW.1
    dsimp only [o_home] at h
    have w : ∀ i, i < 45 → I 1 i = nI (G i) := RM_i hM
    by_cases hp : 0 ≤ p ∧ p < 8
    · rw [if_neg (fun q => q hp)] at h
      obtain ⟨x, hx, rfl⟩ := am_rng (n := 8) (by omega) hp.1 hp.2
      rw [nI_clamp (by omega)] at h
      refine hG2 [] 100 0 _ _ _ _ (am_nt (am_bp hp) (And.intro (am_vin (n := 43) (by decide) rfl) (And.intro (am_vin (n := 43) (by decide) rfl) ?_)))
      have e : ∀ i, g_put G 43 x i = if i = 43 then x else G i := fun i => rfl
      show post (some (.int (I 1 43))) (am_ui I 1 43 (nI x)) L
      rw [w 43 (by omega)]
      refine h _ L c (by omega) (MR_w hC (WG_home hW hx) (fun i hi => ?_) (fun i hi => am_uk (by omega)) (fun a ha => am_ui_o ha))
      rw [e]
      by_cases ik : i = 43
      · subst ik; rw [am_ui_e, if_pos rfl]
      · rw [am_uk ik, if_neg ik]; exact w i hi
    · rw [if_pos hp] at h
      exact hG2 [] 100 0 _ _ _ _ (am_nf (am_bn hp) (h I L c (by omega) hC))
  · exact h.elim
def T_MD_snow : am_Sp := fun vs I L post => match vs with
  | [.ref o, .int s] => o = 0 ∧ ∃ A c, MR I L A c ∧ c + 4096 ≤ 1073741824 ∧ ∀ (I2 : am_I) (L2 : am_J) (c2 : Nat), c2 ≤ c + 4096 → MR I2 L2 (o_snow A s).2 c2 → post (some (.int (o_snow A s).1)) I2 L2
  | _ => False
abbrev sp_MD_snow : Nat → am_Sp := fun _ => am_no
set_option maxRecDepth 100000 in
set_option maxHeartbeats 4000000 in
theorem ok_MD_snow : am_Ok am_SM sp_MD_snow false k_MD_snow 3 T_MD_snow := by
  intro vs I L post h
  unfold T_MD_snow at h
  split at h
  · rename_i o s
    obtain ⟨rfl, A, c, hC, hc, h⟩ := h
    refine ⟨Nat.le_of_ble_eq_true rfl, fun G2 hG2 => ?_⟩
    obtain ⟨G, K, hk, tn, tt, ln, sz, it⟩ := A
    obtain ⟨hV, hM, hK, hk1, htn, htt, hMS, hSh⟩ := id hC
    have hW : WG G := hV.1
    have h12 := hW.1
    dsimp only [o_snow] at h
    have w : ∀ i, i < 45 → I 1 i = nI (G i) := RM_i hM
    by_cases hs : s &&& (nI (G 25) ^^^ (-1)) = 0
    · rw [if_neg (fun q => q hs)] at h
      obtain ⟨m, hm, rfl, hsub⟩ := am_snow hW.2.2.2.1 hs
      rw [nI_clamp (by omega)] at h
      refine hG2 [] 100 0 _ _ _ _ (am_f (nI_pos (by omega)) (And.intro (am_vin (n := 25) (by decide) rfl) (am_t (by rw [show I 1 (25 : Int32).toNatClampNeg = nI (G 25) from w 25 (by omega)]; exact hs) (And.intro (am_vin (n := 44) (by decide) rfl) (And.intro (am_vin (n := 44) (by decide) rfl) ?_)))))
      have e : ∀ i, g_put G 44 m i = if i = 44 then m else G i := fun i => rfl
      show post (some (.int (I 1 44))) (am_ui I 1 44 (nI m)) L
      rw [w 44 (by omega)]
      refine h _ L c (by omega) (MR_w hC (WG_snow hW hsub hm) (fun i hi => ?_) (fun i hi => am_uk (by omega)) (fun a ha => am_ui_o ha))
      rw [e]
      by_cases ik : i = 44
      · subst ik; rw [am_ui_e, if_pos rfl]
      · rw [am_uk ik, if_neg ik]; exact w i hi
    · rw [if_pos hs] at h
      by_cases hn : s < 0
      · exact hG2 [] 100 0 _ _ _ _ (am_t hn (h I L c (by omega) hC))
      · exact hG2 [] 100 0 _ _ _ _ (am_f hn (And.intro (am_vin (n := 25) (by decide) rfl) (am_f (by rw [show I 1 (25 : Int32).toNatClampNeg = nI (G 25) from w 25 (by omega)]; exact hs) (h I L c (by omega) hC))))
  · exact h.elim
def T_MD_count : am_Sp := fun vs I L post => match vs with
  | [.ref o, .int x] => o = 0 ∧ ∃ A c, MR I L A c ∧ c + 4096 ≤ 1073741824 ∧ ∀ (I2 : am_I) (L2 : am_J) (c2 : Nat), c2 ≤ c + 4096 → MR I2 L2 (o_count A x).2 c2 → post (some (.int (o_count A x).1)) I2 L2
  | _ => False
def sp_MD_count : Nat → am_Sp := fun i => match i with
  | 74 => T_MD_ones
  | _ => am_no
set_option maxRecDepth 100000 in
set_option maxHeartbeats 4000000 in
theorem ok_MD_count : am_Ok am_SM sp_MD_count false k_MD_count 2 T_MD_count := by
  intro vs I L post h
  unfold T_MD_count at h
  split at h
  · rename_i o x
    obtain ⟨rfl, A, c, hC, hc, h⟩ := h
    refine ⟨Nat.le_of_ble_eq_true rfl, fun G2 hG2 => ?_⟩
    obtain ⟨G, K, hk, tn, tt, ln, sz, it⟩ := A
    obtain ⟨hV, hM, hK, hk1, htn, htt, hMS, hSh⟩ := id hC
    have hW : WG G := hV.1
    have h12 := hW.1
    dsimp only [o_count] at h
    have w : ∀ i, i < 45 → I 1 i = nI (G i) := RM_i hM
    refine hG2 [] 100 0 _ _ _ _ (And.intro (fun q => ?_) (fun q0 => And.intro (fun q => ?_) (fun q1 => And.intro (fun q => ?_) (fun q2 => And.intro (fun q => ?_) (fun q3 => And.intro (fun q => ?_) (fun q4 => ?_))))))
    · have hx : x = 0 := q
      rw [if_pos hx] at h
      refine And.intro (am_vin (n := 0) (by decide) rfl) ?_
      show post (some (.int (I 1 0))) I L
      rw [w 0 (by omega)]; exact (h I L c (by omega) hC)
    · have hx : x = 1 := q
      subst hx
      rw [if_neg (by decide), if_pos rfl] at h
      refine And.intro (am_vin (n := 25) (by decide) rfl) ?_
      show post (some (.int (I 1 25))) I L
      rw [w 25 (by omega)]; exact (h I L c (by omega) hC)
    · have hx : x = 2 := q
      subst hx
      rw [if_neg (by decide), if_neg (by decide), if_pos rfl] at h
      exact And.intro (am_vin (n := 26) (by decide) rfl) (Exists.intro (G 26) (And.intro (w 26 (by omega)) (h I L c (by omega) hC)))
    · have hx : x = 3 := q
      subst hx
      rw [if_neg (by decide), if_neg (by decide), if_neg (by decide), if_pos rfl] at h
      refine And.intro (am_vin (n := 43) (by decide) rfl) ?_
      show post (some (.int (I 1 43))) I L
      rw [w 43 (by omega)]; exact (h I L c (by omega) hC)
    · have hx : x = 4 := q
      subst hx
      rw [if_neg (by decide), if_neg (by decide), if_neg (by decide), if_neg (by decide), if_pos rfl] at h
      refine And.intro (am_vin (n := 44) (by decide) rfl) ?_
      show post (some (.int (I 1 44))) I L
      rw [w 44 (by omega)]; exact (h I L c (by omega) hC)
    · have p0 : ¬ x = 0 := q0
      have p1 : ¬ x = 1 := q1
      have p2 : ¬ x = 2 := q2
      have p3 : ¬ x = 3 := q3
      have p4 : ¬ x = 4 := q4
      rw [if_neg p0, if_neg p1, if_neg p2, if_neg p3, if_neg p4] at h
      exact (h I L c (by omega) hC)
  · exact h.elim
def T_MD_read : am_Sp := fun vs I L post => match vs with
  | [.ref o, .int p, .int f] => o = 0 ∧ ∃ A c, MR I L A c ∧ c + 4096 ≤ 1073741824 ∧ ∀ (I2 : am_I) (L2 : am_J) (c2 : Nat), c2 ≤ c + 4096 → MR I2 L2 (o_read A p f).2 c2 → post (some (.int (o_read A p f).1)) I2 L2
  | _ => False
def sp_MD_read : Nat → am_Sp := fun i => match i with
  | 66 => T_MD_isPlace
  | 70 => T_MD_between
  | 83 => T_MD_has
  | 128 => T_MD_tells
  | _ => am_no
set_option maxRecDepth 100000 in
set_option maxHeartbeats 4000000 in
theorem ok_MD_read : am_Ok am_SM sp_MD_read false k_MD_read 3 T_MD_read := by
  intro vs I L post h
  unfold T_MD_read at h
  split at h
  · rename_i o p f
    obtain ⟨rfl, A, c, hC, hc, h⟩ := h
    refine ⟨Nat.le_of_ble_eq_true rfl, fun G2 hG2 => ?_⟩
    obtain ⟨G, K, hk, tn, tt, ln, sz, it⟩ := A
    obtain ⟨hV, hM, hK, hk1, htn, htt, hMS, hSh⟩ := id hC
    have hW : WG G := hV.1
    have h12 := hW.1
    dsimp only [o_read] at h
    have w : ∀ i, i < 45 → I 1 i = nI (G i) := RM_i hM
    by_cases hp : 0 ≤ p ∧ p < 8
    · by_cases hf : 0 ≤ f ∧ f < 8
      · rw [if_neg (by rintro (q | q); exact q hp; exact q hf)] at h
        obtain ⟨x, hx, rfl⟩ := am_rng (n := 8) (by omega) hp.1 hp.2
        obtain ⟨y, hy, rfl⟩ := am_rng (n := 8) (by omega) hf.1 hf.2
        rw [nI_clamp (by omega), nI_clamp (by omega)] at h
        have hle := g_wy_le G x y
        have hst0 : am_b (f_h (I 1 26) (nI x) = 1) = am_b ((G 26).testBit x = true) := by rw [w 26 (by omega), m_has _ (by omega)]
        refine hG2 [] 100 0 _ _ _ _ (am_f (am_bp hp) (am_nt (am_bp hf) (And.intro (rfl) (Exists.intro (G) (Exists.intro (x) (Exists.intro (y) (And.intro (hW) (And.intro (hM) (And.intro (hx) (And.intro (hy) (And.intro (rfl) (And.intro (rfl) (?_)))))))))))))
        by_cases hj : g_wy G x y = 0
        · rw [if_pos hj] at h
          exact am_nf ((nI_m1lt (by omega)).mpr hj) (h I L c (by omega) hC)
        · rw [if_neg hj] at h
          refine am_nt (fun z => hj ((nI_m1lt (by omega)).mp z)) (And.intro (am_vin (n := 26) (by decide) rfl) ?_)
          by_cases hst : (G 26).testBit x = true
          · rw [if_neg (fun q => q hst)] at h
            exact am_nt (show ¬ am_b (f_h (I 1 26) (nI x) = 1) = 0 by rw [hst0, am_b1 hst]; decide) (And.intro (am_vin (n := 44) (by decide) rfl) (And.intro (rfl) (Exists.intro (G) (Exists.intro (x) (Exists.intro (y) (Exists.intro (G 44) (And.intro (hW) (And.intro (hM) (And.intro (hx) (And.intro (hy) (And.intro (hst) (And.intro (rfl) (And.intro (rfl) (And.intro (w 44 (by omega)) ((h I L c (by omega) hC))))))))))))))))
          · rw [if_pos hst] at h
            exact am_nf (show am_b (f_h (I 1 26) (nI x) = 1) = 0 by rw [hst0, am_b0 hst]) (h I L c (by omega) hC)
      · rw [if_pos (Or.inr hf)] at h
        exact hG2 [] 100 0 _ _ _ _ (am_f (am_bp hp) (am_nf (am_bn hf) (h I L c (by omega) hC)))
    · rw [if_pos (Or.inl hp)] at h
      exact hG2 [] 100 0 _ _ _ _ (am_t (am_bn hp) (h I L c (by omega) hC))
  · exact h.elim
def T_MD_image : am_Sp := fun vs I L post => match vs with
  | [.ref o] => o = 0 ∧ ∃ A c, MR I L A c ∧ c + 4096 ≤ 1073741824 ∧ ∀ (I2 : am_I) (L2 : am_J) (c2 : Nat), c2 ≤ c + 4096 → MR I2 L2 (o_image A ).2 c2 → post (some (.int (o_image A ).1)) I2 L2
  | _ => False
abbrev sp_MD_image : Nat → am_Sp := fun _ => am_no
set_option maxRecDepth 100000 in
set_option maxHeartbeats 4000000 in
theorem ok_MD_image : am_Ok am_SM sp_MD_image false k_MD_image 2 T_MD_image := by
  intro vs I L post h
  unfold T_MD_image at h
  split at h
  · rename_i o
    obtain ⟨rfl, A, c, hC, hc, h⟩ := h
    refine ⟨Nat.le_of_ble_eq_true rfl, fun G2 hG2 => ?_⟩
    obtain ⟨G, K, hk, tn, tt, ln, sz, it⟩ := A
    obtain ⟨hV, hM, hK, hk1, htn, htt, hMS, hSh⟩ := id hC
    have hW : WG G := hV.1
    have h12 := hW.1
    dsimp only [o_image] at h
    have w : ∀ i, i < 45 → I 1 i = nI (G i) := RM_i hM
    have loop : ∀ d k (I1 : am_I), 45 - k = d → k ≤ 45 → (∀ a : Nat, a ≠ 1 → I1 a = I a) → (∀ i, i < 45 → I1 1 i = nI (G i)) → (∀ i, i < k → I1 1 (45 + i) = nI (G i)) → G2 2 [some (.ref 0), some (.int (nI k))] [] I1 L := by
      intro d
      induction d with
      | zero =>
        intro k I1 hd hk2 ho hl hj
        have e : k = 45 := by omega
        subst e
        refine hG2 [] 100 2 _ _ _ _ (am_nt (am_nlt (Nat.le_refl 45) rfl) (And.intro (Or.inr rfl) ?_))
        show post (some (.int 1)) (am_ui I1 0 1 1) L
        have e1 : am_ui I1 0 1 1 1 = I1 1 := am_ui_o (by omega)
        refine h _ L c (by omega) (MR_1 hC (fun a h0 h1 => (am_ui_o h0).trans (ho a h1)) (fun q hq => (am_uk hq).trans (by rw [ho 0 (by omega)])) hW hW (fun i hi => by rw [e1, Nat.zero_add]; exact hl i hi) (fun _ i hi => by rw [e1]; exact hj i hi) (am_ui_e.trans (am_b1 rfl).symm))
      | succ d ih =>
        intro k I1 hd hk2 ho hl hj
        refine hG2 [(2, [])] 100 2 _ _ _ _ (am_nf (am_lt (show k < 45 by omega) rfl) (And.intro (am_vin (show k < 90 by omega) rfl) (And.intro (am_ixv (a := 45) (by omega)) ?_)))
        show G2 2 [some (.ref 0), some (.int (nI k + 1))] [] (am_ui I1 1 (nI 45 + nI k).toNatClampNeg (I1 1 (nI k).toNatClampNeg)) L
        rw [am_ix (by omega), nI_clamp (by omega), nI_1, hl k (by omega)]
        refine ih (k + 1) _ (by omega) (by omega) (fun a ha => (am_ui_o ha).trans (ho a ha)) (fun i hi => (am_uk (by omega)).trans (hl i hi)) (fun i hi => ?_)
        by_cases e : i = k
        · subst e; exact am_ui_e
        · exact (am_uk (by omega)).trans (hj i (by omega))
    refine hG2 [(2, [])] 100 0 _ _ _ _ ?_
    exact loop 45 0 I (by omega) (by omega) (fun _ _ => rfl) w (fun i hi => by omega)
  · exact h.elim
def T_MD_restore : am_Sp := fun vs I L post => match vs with
  | [.ref o] => o = 0 ∧ ∃ A c, MR I L A c ∧ c + 4096 ≤ 1073741824 ∧ ∀ (I2 : am_I) (L2 : am_J) (c2 : Nat), c2 ≤ c + 4096 → MR I2 L2 (o_restore A ).2 c2 → post (some (.int (o_restore A ).1)) I2 L2
  | _ => False
abbrev sp_MD_restore : Nat → am_Sp := fun _ => am_no
set_option maxRecDepth 100000 in
set_option maxHeartbeats 4000000 in
theorem ok_MD_restore : am_Ok am_SM sp_MD_restore false k_MD_restore 2 T_MD_restore := by
  intro vs I L post h
  unfold T_MD_restore at h
  split at h
  · rename_i o
    obtain ⟨rfl, A, c, hC, hc, h⟩ := h
    refine ⟨Nat.le_of_ble_eq_true rfl, fun G2 hG2 => ?_⟩
    obtain ⟨G, K, hk, tn, tt, ln, sz, it⟩ := A
    obtain ⟨hV, hM, hK, hk1, htn, htt, hMS, hSh⟩ := id hC
    have hW : WG G := hV.1
    have h12 := hW.1
    dsimp only [o_restore] at h
    have w : ∀ i, i < 45 → I 1 i = nI (G i) := RM_i hM
    cases hk with
    | false =>
      rw [if_neg (by decide)] at h
      refine hG2 [] 100 0 _ _ _ _ (am_nf ?_ (h I L c (by omega) hC))
      show I 0 1 = 0
      rw [hk1, am_b0 (by decide)]
    | true =>
      rw [if_pos rfl] at h
      have hK := hK rfl
      have loop : ∀ d k (I1 : am_I), 45 - k = d → k ≤ 45 → (∀ a : Nat, a ≠ 1 → I1 a = I a) → (∀ i, i < 45 → I1 1 (45 + i) = nI (K i)) → (∀ i, i < k → I1 1 i = nI (K i)) → G2 12 [some (.ref 0), some (.int (nI k))] [] I1 L := by
        intro d
        induction d with
        | zero =>
          intro k I1 hd hk2 ho hl hj
          have e : k = 45 := by omega
          subst e
          refine hG2 [] 100 12 _ _ _ _ (am_nt (am_nlt (Nat.le_refl 45) rfl) ?_)
          show post (some (.int 1)) I1 L
          exact h _ L c (by omega) (MR_1 hC (fun a h0 h1 => ho a h1) (fun q hq => by rw [ho 0 (by omega)]) hV.2.1 hV.2.1 (fun i hi => by rw [Nat.zero_add]; exact hj i hi) (fun _ i hi => hl i hi) (by rw [ho 0 (by omega)]; exact hk1))
        | succ d ih =>
          intro k I1 hd hk2 ho hl hj
          refine hG2 [(12, [])] 100 12 _ _ _ _ (am_nf (am_lt (show k < 45 by omega) rfl) (And.intro (am_ixv (a := 45) (by omega)) (And.intro (am_vin (show k < 90 by omega) rfl) ?_)))
          show G2 12 [some (.ref 0), some (.int (nI k + 1))] [] (am_ui I1 1 (nI k).toNatClampNeg (I1 1 (nI 45 + nI k).toNatClampNeg)) L
          rw [am_ix (by omega), nI_clamp (by omega), nI_1, hl k (by omega)]
          refine ih (k + 1) _ (by omega) (by omega) (fun a ha => (am_ui_o ha).trans (ho a ha)) (fun i hi => (am_uk (by omega)).trans (hl i hi)) (fun i hi => ?_)
          by_cases e : i = k
          · subst e; exact am_ui_e
          · exact (am_uk (by omega)).trans (hj i (by omega))
      refine hG2 [(12, [])] 100 0 _ _ _ _ (am_nt ?_ ?_)
      · show ¬ I 0 1 = 0
        rw [hk1, am_b1 rfl]; decide
      · exact loop 45 0 I (by omega) (by omega) (fun _ _ => rfl) hK (fun i hi => by omega)
  · exact h.elim
