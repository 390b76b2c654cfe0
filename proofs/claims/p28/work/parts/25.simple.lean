/-! THE CLASS: the simple calls -/
theorem am_uo {I : am_I} {o k a b : Nat} {x : Int32} (h : a ≠ o) : am_ui I o k x a b = I a b := am_ui_n (fun t => h t.1)
theorem am_uk {I : am_I} {o k a b : Nat} {x : Int32} (h : b ≠ k) : am_ui I o k x a b = I a b := am_ui_n (fun t => h t.2)
theorem VA_G {G G' : Nat → Nat} {R : (Nat → Nat) × Bool × Nat × (Nat → Nat) × (Nat → Int32) × (Nat → Nat) × (Nat → Nat → Int64)} (h : VA (G, R)) (hW : WG G') : VA (G', R) := by
  obtain ⟨K, hk, tn, tt, ln, sz, it⟩ := R
  exact ⟨hW, h.2⟩
theorem CR_road {I I2 : am_I} {L L2 : am_J} {G G' : Nat → Nat} {R : (Nat → Nat) × Bool × Nat × (Nat → Nat) × (Nat → Int32) × (Nat → Nat) × (Nat → Nat → Int64)} (h : CR I L (G, R)) (hW : WG G') (hR : RC I2 L2 1 G') (hI : ∀ a : Nat, (a = 0 ∨ 6 < a) → I2 a = I a) (hL : ∀ a : Nat, a ≠ 1 → L2 a = L a) : CR I2 L2 (G', R) := by
  obtain ⟨K, hk, tn, tt, ln, sz, it⟩ := R
  obtain ⟨hV, _, hKr, hk7, hT, ⟨V, hS⟩, hSh⟩ := h
  exact ⟨⟨hW, hV.2⟩, hR, RC_fr hKr (fun a _ _ => hI a (by omega)) (hL 7 (by omega)), by rw [hI 0 (by omega)]; exact hk7, TP_fr hT (by rw [hI 19 (by omega)]) (hI 20 (by omega)), ⟨V, SC_fr hS (by rw [hI 22 (by omega)]) (hI 24 (by omega)) (hL 23 (by omega))⟩, SHc_fr hSh (fun a _ _ => hI a (by omega)) (fun a _ _ => hL a (by omega))⟩
theorem WG_side {G : Nat → Nat} (h : WG G) {p s w : Nat} (hp : p < 8) (hs : s < 8) (hw : w < G 0) : WG (g_put (g_put (g_put G (27 + p) s) (35 + p) w) 26 (g_set (G 26) p)) := by
  have e : ∀ i, g_put (g_put (g_put G (27 + p) s) (35 + p) w) 26 (g_set (G 26) p) i = if i = 26 then g_set (G 26) p else if i = 35 + p then w else if i = 27 + p then s else G i := fun i => rfl
  refine WG_of h (fun i hi => ?_) ?_ (fun q hq hst => ?_) ?_ ?_ (fun k hk => ?_)
  · rw [e, if_neg (by omega), if_neg (by omega), if_neg (by omega)]
  · rw [e, if_pos rfl]; exact g_set_lt (n := 8) h.2.2.2.2.2.2.1 hp
  · rw [e, if_pos rfl, g_set_t] at hst
    rw [e, e, if_neg (by omega), if_neg (by omega)]
    by_cases z : q = p
    · rw [if_pos (by omega), if_neg (by omega), if_pos (by omega)]; exact ⟨hs, hw⟩
    · rw [if_neg (by omega), if_neg (by omega), if_neg (by omega), if_neg (by omega)]
      simp only [z, decide_false, Bool.or_false] at hst
      exact h.2.2.2.2.2.2.2.1 q hq hst
  · rw [e, if_neg (by omega), if_neg (by omega), if_neg (by omega)]; exact h.2.2.2.2.2.2.2.2.1
  · rw [e, if_neg (by omega), if_neg (by omega), if_neg (by omega)]; exact h.2.2.2.2.2.2.2.2.2.1
  · rw [e, if_neg (by omega), if_neg (by omega), if_neg (by omega)] at hk; exact h.2.2.2.2.2.2.2.2.2.2 k hk
theorem WG_clr {G : Nat → Nat} (h : WG G) {p : Nat} (hp : p < 8) : WG (g_put G 26 (g_clr (G 26) p)) := by
  have e : ∀ i, g_put G 26 (g_clr (G 26) p) i = if i = 26 then g_clr (G 26) p else G i := fun i => rfl
  refine WG_of h (fun i hi => ?_) ?_ (fun q hq hst => ?_) ?_ ?_ (fun k hk => ?_)
  · rw [e, if_neg (by omega)]
  · rw [e, if_pos rfl]; exact g_clr_lt (n := 8) h.2.2.2.2.2.2.1 hp
  · rw [e, if_pos rfl, g_clr_t] at hst
    rw [e, e, if_neg (by omega), if_neg (by omega)]
    simp only [Bool.and_eq_true] at hst
    exact h.2.2.2.2.2.2.2.1 q hq hst.1
  · rw [e, if_neg (by omega)]; exact h.2.2.2.2.2.2.2.2.1
  · rw [e, if_neg (by omega)]; exact h.2.2.2.2.2.2.2.2.2.1
  · rw [e, if_neg (by omega)] at hk; exact h.2.2.2.2.2.2.2.2.2.2 k hk
theorem WG_home {G : Nat → Nat} (h : WG G) {p : Nat} (hp : p < 8) : WG (g_put G 43 p) := by
  have e : ∀ i, g_put G 43 p i = if i = 43 then p else G i := fun i => rfl
  refine WG_of h (fun i hi => ?_) ?_ (fun q hq hst => ?_) ?_ ?_ (fun k hk => ?_)
  · rw [e, if_neg (by omega)]
  · rw [e, if_neg (by omega)]; exact h.2.2.2.2.2.2.1
  · rw [e, if_neg (by omega)] at hst
    rw [e, e, if_neg (by omega), if_neg (by omega)]
    exact h.2.2.2.2.2.2.2.1 q hq hst
  · rw [e, if_pos rfl]; exact hp
  · rw [e, if_neg (by omega)]; exact h.2.2.2.2.2.2.2.2.2.1
  · rw [e, if_neg (by omega)] at hk; exact h.2.2.2.2.2.2.2.2.2.2 k hk
theorem WG_snow {G : Nat → Nat} (h : WG G) {s : Nat} (hs : ∀ k, s.testBit k = true → (G 25).testBit k = true) (hlt : s < 2 ^ 12) : WG (g_put G 44 s) := by
  have e : ∀ i, g_put G 44 s i = if i = 44 then s else G i := fun i => rfl
  refine WG_of h (fun i hi => ?_) ?_ (fun q hq hst => ?_) ?_ ?_ (fun k hk => ?_)
  · rw [e, if_neg (by omega)]
  · rw [e, if_neg (by omega)]; exact h.2.2.2.2.2.2.1
  · rw [e, if_neg (by omega)] at hst
    rw [e, e, if_neg (by omega), if_neg (by omega)]
    exact h.2.2.2.2.2.2.2.1 q hq hst
  · rw [e, if_neg (by omega)]; exact h.2.2.2.2.2.2.2.2.1
  · rw [e, if_pos rfl]; exact hlt
  · rw [e, if_pos rfl] at hk; exact hs k hk
/-- a set of ways that are doubtful, by the number that holds it -/
theorem am_snow {d : Nat} (hd : d < 2 ^ 12) {s : Int32} (h : s &&& (nI d ^^^ (-1)) = 0) : ∃ m, m < 2 ^ 12 ∧ s = nI m ∧ ∀ k, m.testBit k = true → d.testBit k = true := by
  have hb : ∀ i, i < 32 → bt s i = true → d.testBit i = true := fun i hi hs => by
    have := bt_zero.mp h i hi
    rw [b_and, bt_not hi, bt_nI _ _ hi, hs] at this
    simpa using this
  have e : s = nI s.toBitVec.toNat := by
    apply Int32.toBitVec_inj.1
    show s.toBitVec = BitVec.ofNat 32 s.toBitVec.toNat
    simp
  have hlt : s.toBitVec.toNat < 2 ^ 32 := s.toBitVec.isLt
  have hs : ∀ k, s.toBitVec.toNat.testBit k = true → d.testBit k = true := fun k hk => by
    rcases Nat.lt_or_ge k 32 with z | z
    · exact hb k z (by rw [e, bt_nI _ _ z]; exact hk)
    · rw [Nat.testBit_lt_two_pow (Nat.lt_of_lt_of_le hlt (Nat.pow_le_pow_right (by omega) z))] at hk; cases hk
  refine ⟨s.toBitVec.toNat, ?_, e, hs⟩
  apply Nat.lt_pow_two_of_testBit
  intro i hi
  cases hq : s.toBitVec.toNat.testBit i with
  | false => rfl
  | true =>
    have := hs i hq
    rw [Nat.testBit_lt_two_pow (Nat.lt_of_lt_of_le hd (Nat.pow_le_pow_right (by omega) hi))] at this
    cases this
theorem am_pl8 {x : Nat} (h : x < 8) : 0 ≤ nI x ∧ nI x < 8 := ⟨nI_pos' (by omega), am_lt h rfl⟩
def T_RP_way : am_Sp := fun vs I L post => match vs with
  | [.ref o, .int a, .int b, .int d] => o = 0 ∧ ∃ A, CR I L A ∧ ∀ (I2 : am_I) (L2 : am_J), CR I2 L2 (o_way A a b d).2 → post (some (.int (o_way A a b d).1)) I2 L2
  | _ => False
def sp_RP_way : Nat → am_Sp := fun i => match i with
  | 47 => T_RP_isPlace
  | 51 => T_RD_isJoined
  | 55 => T_RD_hasRoom
  | 59 => T_RD_join
  | _ => am_no
set_option maxRecDepth 100000 in
theorem ok_RP_way : am_Ok am_SX sp_RP_way false k_RP_way 4 T_RP_way := by
  intro vs I L post h
  unfold T_RP_way at h
  split at h
  · rename_i o a b d
    obtain ⟨rfl, A, hC, h⟩ := h
    refine ⟨Nat.le_of_ble_eq_true rfl, fun G2 hG2 => ?_⟩
    obtain ⟨G, K, hk, tn, tt, ln, sz, it⟩ := A
    obtain ⟨hV, hR, hKr, hk7, hT, hS, hSh⟩ := id hC
    have hW : WG G := hV.1
    have h12 := hW.1
    obtain ⟨r5, r6, r7, r8, r9, rw2, rj, rs, rn, rc⟩ := id hR
    dsimp only [o_way] at h
    by_cases ha : 0 ≤ a ∧ a < 8
    · by_cases hb : 0 ≤ b ∧ b < 8
      · by_cases hab : a = b
        · rw [if_pos (Or.inr (Or.inr hab))] at h
          exact hG2 [] 100 0 _ _ _ _ (am_f (am_bp ha) (am_f (am_bp hb) (am_nf hab (h I L hC))))
        · rw [if_neg (by rintro (q | q | q); exact q ha; exact q hb; exact hab q)] at h
          refine hG2 [] 100 0 _ _ _ _ (am_f (am_bp ha) (am_f (am_bp hb) (am_nt hab (And.intro (Or.inl rfl) ?_))))
          obtain ⟨x, hx, rfl⟩ := am_rng (n := 8) (by omega) ha.1 ha.2
          obtain ⟨y, hy, rfl⟩ := am_rng (n := 8) (by omega) hb.1 hb.2
          have hxy : x ≠ y := fun q => hab (by rw [q])
          have hle := g_wy_le G x y
          have hfw := f_wb_RC hR hx hy
          rw [nI_clamp (by omega), nI_clamp (by omega)] at h
          by_cases hw : g_wy G x y = 0
          · rw [if_neg (fun q => q hw)] at h
            refine am_t (am_b0 (by rw [hfw, nI_m1 (by omega)]; exact fun q => q hw)) (And.intro (Or.inl rfl) ?_)
            have hpc := f_bc_nI (G 25) hW.2.2.2.1
            have hle6 := hW.2.2.2.2.2.1
            by_cases hf : G 0 = 12 ∨ (¬ d = 0 ∧ g_pc (G 25) 12 = 6)
            · rw [if_pos hf] at h
              refine am_nf (am_b0 ?_) (h I L hC)
              rw [r5, r6, hpc]
              rintro ⟨q1, q2⟩
              rcases hf with z | ⟨z1, z2⟩
              · rw [z] at q1; exact absurd q1 (am_nlt (Nat.le_refl 12) rfl)
              · rcases q2 with q2 | q2
                · exact z1 q2
                · rw [z2] at q2; exact absurd q2 (am_nlt (Nat.le_refl 6) rfl)
            · rw [if_neg hf] at h
              have h0 : G 0 < 12 := by omega
              refine am_nt (am_bp ⟨by rw [r5]; exact am_lt h0 rfl, ?_⟩) ?_
              · by_cases hd : d = 0
                · exact Or.inl hd
                · right
                  rw [r6, hpc]
                  have h6 : ¬ g_pc (G 25) 12 = 6 := fun z => hf (Or.inr ⟨hd, z⟩)
                  exact am_lt (show g_pc (G 25) 12 < 6 by omega) rfl
              · refine And.intro (Or.inl rfl) (And.intro (am_pl8 hx) (And.intro (am_pl8 hy) (And.intro ?_ ?_)))
                · rw [r5]; exact ⟨nI_pos' (by omega), am_lt h0 rfl⟩
                · rw [r5]
                  have hd6 : (!decide (d = 0)) = true → g_pc (G 25) 12 < 6 := fun z => by
                    have : ¬ d = 0 := by simpa using z
                    have : ¬ g_pc (G 25) 12 = 6 := fun z => hf (Or.inr ⟨this, z⟩)
                    omega
                  exact h _ _ (CR_road hC (WG_add hW hx hy hxy hw h0 hd6) (RC_join hW hR hx hy hxy hw h0) (fun a ha => (f_join_fr (L := L)).1 a (show a ≠ 1 by omega) (show a ≠ 2 by omega) (show a ≠ 3 by omega) (show a ≠ 4 by omega)) (fun a ha => (f_join_fr (I := I)).2 a ha))
          · rw [if_pos hw] at h
            exact am_f (am_bp (by rw [hfw, nI_m1 (by omega)]; exact hw)) (h I L hC)
      · rw [if_pos (Or.inr (Or.inl hb))] at h
        exact hG2 [] 100 0 _ _ _ _ (am_f (am_bp ha) (am_t (am_bn hb) (h I L hC)))
    · rw [if_pos (Or.inl ha)] at h
      exact hG2 [] 100 0 _ _ _ _ (am_t (am_bn ha) (h I L hC))
  · exact h.elim
def T_RP_told : am_Sp := fun vs I L post => match vs with
  | [.ref o, .int w, .int x] => o = 0 ∧ ∃ A, CR I L A ∧ ∀ (I2 : am_I) (L2 : am_J), CR I2 L2 (o_told A w x).2 → post (some (.int (o_told A w x).1)) I2 L2
  | _ => False
def sp_RP_told : Nat → am_Sp := fun i => match i with
  | 63 => T_RD_isWay
  | 66 => T_RD_lesserOf
  | 70 => T_RD_greaterOf
  | 77 => T_RP_bitOf
  | _ => am_no
set_option maxRecDepth 100000 in
theorem ok_RP_told : am_Ok am_SX sp_RP_told false k_RP_told 3 T_RP_told := by
  intro vs I L post h
  unfold T_RP_told at h
  split at h
  · rename_i o w x
    obtain ⟨rfl, A, hC, h⟩ := h
    refine ⟨Nat.le_of_ble_eq_true rfl, fun G2 hG2 => ?_⟩
    obtain ⟨G, K, hk, tn, tt, ln, sz, it⟩ := A
    obtain ⟨hV, hR, hKr, hk7, hT, hS, hSh⟩ := id hC
    have hW : WG G := hV.1
    have h12 := hW.1
    obtain ⟨r5, r6, r7, r8, r9, rw2, rj, rs, rn, rc⟩ := id hR
    dsimp only [o_told] at h
    by_cases hw : 0 ≤ w ∧ w < nI (G 0)
    · have hw1 : 0 ≤ w ∧ w < I 1 5 := by rw [r5]; exact hw
      obtain ⟨k, hk2, rfl⟩ := am_rng (n := G 0) (by omega) hw.1 hw.2
      have ck : (nI k).toNatClampNeg = k := nI_clamp (by omega)
      have vk : vp_in (nI k) 12 := am_vin (by omega) rfl
      rw [ck] at h
      refine hG2 [] 100 0 _ _ _ _ (And.intro (Or.inl rfl) (am_nt (am_bp hw1) ?_))
      refine And.intro (fun q => ?_) (fun q0 => And.intro (fun q => ?_) (fun q1 => And.intro (fun q => ?_) (fun q2 => And.intro (fun q => ?_) (fun q3 => ?_))))
      · have hx : x = 0 := q
        subst hx
        rw [if_neg (by rintro (z | z); exact z hw; exact z (by decide)), if_pos rfl] at h
        refine And.intro (Or.inl rfl) (And.intro (fun _ => vk) ?_)
        rw [if_pos hw1, ck, (rw2 k hk2).1]
        exact h I L hC
      · have hx : x = 1 := q
        subst hx
        rw [if_neg (by rintro (z | z); exact z hw; exact z (by decide)), if_neg (by decide), if_pos rfl] at h
        refine And.intro (Or.inl rfl) (And.intro (fun _ => vk) ?_)
        rw [if_pos hw1, ck, (rw2 k hk2).2]
        exact h I L hC
      · have hx : x = 2 := q
        subst hx
        rw [if_neg (by rintro (z | z); exact z hw; exact z (by decide)), if_neg (by decide), if_neg (by decide), if_pos rfl] at h
        show post (some (.int (f_bit (I 1 6) (nI k)))) I L
        rw [r6, f_bit_nI _ (by omega)]
        exact h I L hC
      · have hx : x = 3 := q
        subst hx
        rw [if_neg (by rintro (z | z); exact z hw; exact z (by decide)), if_neg (by decide), if_neg (by decide), if_neg (by decide)] at h
        show post (some (.int (f_bit (I 1 7) (nI k)))) I L
        rw [r7, f_bit_nI _ (by omega)]
        exact h I L hC
      · rw [if_pos (Or.inr (fun z => by
          obtain ⟨j, hj, rfl⟩ := am_rng (n := 4) (by omega) z.1 z.2
          rcases (show j = 0 ∨ j = 1 ∨ j = 2 ∨ j = 3 by omega) with rfl | rfl | rfl | rfl
          · exact q0 rfl
          · exact q1 rfl
          · exact q2 rfl
          · exact q3 rfl))] at h
        exact h I L hC
    · rw [if_pos (Or.inl hw)] at h
      exact hG2 [] 100 0 _ _ _ _ (And.intro (Or.inl rfl) (am_nf (am_bn (by rw [r5]; exact hw)) (h I L hC)))
  · exact h.elim
def T_RP_stone : am_Sp := fun vs I L post => match vs with
  | [.ref o, .int p, .int s, .int w] => o = 0 ∧ ∃ A, CR I L A ∧ ∀ (I2 : am_I) (L2 : am_J), CR I2 L2 (o_stone A p s w).2 → post (some (.int (o_stone A p s w).1)) I2 L2
  | _ => False
def sp_RP_stone : Nat → am_Sp := fun i => match i with
  | 47 => T_RP_isPlace
  | 51 => T_RD_isJoined
  | 63 => T_RD_isWay
  | 84 => T_RD_setStone
  | 91 => T_IN_bitCount
  | _ => am_no
set_option maxRecDepth 100000 in
theorem ok_RP_stone : am_Ok am_SX sp_RP_stone false k_RP_stone 4 T_RP_stone := by
  intro vs I L post h
  unfold T_RP_stone at h
  split at h
  · rename_i o p s w
    obtain ⟨rfl, A, hC, h⟩ := h
    refine ⟨Nat.le_of_ble_eq_true rfl, fun G2 hG2 => ?_⟩
    obtain ⟨G, K, hk, tn, tt, ln, sz, it⟩ := A
    obtain ⟨hV, hR, hKr, hk7, hT, hS, hSh⟩ := id hC
    have hW : WG G := hV.1
    have h12 := hW.1
    obtain ⟨r5, r6, r7, r8, r9, rw2, rj, rs, rn, rc⟩ := id hR
    dsimp only [o_stone] at h
    by_cases hp : 0 ≤ p ∧ p < 8
    · by_cases hs : 0 ≤ s ∧ s < 8
      · by_cases hw : 0 ≤ w ∧ w < nI (G 0)
        · rw [if_neg (by rintro (q | q | q); exact q hp; exact q hs; exact q hw)] at h
          refine hG2 [] 100 0 _ _ _ _ (am_f (am_bp hp) (am_f (am_bp hs) (And.intro (Or.inl rfl) (am_nt (am_bp (by rw [r5]; exact hw)) (And.intro (Or.inl rfl) ?_)))))
          obtain ⟨x, hx, rfl⟩ := am_rng (n := 8) (by omega) hp.1 hp.2
          obtain ⟨y, hy, rfl⟩ := am_rng (n := 8) (by omega) hs.1 hs.2
          obtain ⟨k, hk2, rfl⟩ := am_rng (n := G 0) (by omega) hw.1 hw.2
          have cx : (nI x).toNatClampNeg = x := nI_clamp (by omega)
          have hle := g_wy_le G x y
          have hfw := f_wb_RC hR hx hy
          rw [cx, nI_clamp (by omega), nI_clamp (by omega)] at h
          by_cases hj : g_wy G x y = 0
          · rw [if_pos hj] at h
            exact am_nf (am_b0 (by rw [hfw, nI_m1 (by omega)]; exact fun q => q hj)) (h I L hC)
          · rw [if_neg hj] at h
            refine am_nt (am_bp (by rw [hfw, nI_m1 (by omega)]; exact hj)) (And.intro (Or.inl rfl) (And.intro hp ?_))
            have e8 : I 1 8 ||| ((1 : Int32) <<< (nI x &&& 31)) = nI (g_set (G 26) x) := by rw [r8, g_set_I _ (by omega)]
            show post (some (.int (f_bc (am_ui (am_ui (am_ui I 5 (nI x).toNatClampNeg (nI y)) 6 (nI x).toNatClampNeg (nI k)) 1 8 (I 1 8 ||| ((1 : Int32) <<< (nI x &&& 31))) 1 8)))) (am_ui (am_ui (am_ui I 5 (nI x).toNatClampNeg (nI y)) 6 (nI x).toNatClampNeg (nI k)) 1 8 (I 1 8 ||| ((1 : Int32) <<< (nI x &&& 31)))) L
            have h26 : g_set (G 26) x < 2 ^ 8 := g_set_lt hW.2.2.2.2.2.2.1 hx
            rw [am_ui_e, e8, f_bc_nI _ (by omega), cx]
            have e : ∀ i, g_put (g_put (g_put G (27 + x) y) (35 + x) k) 26 (g_set (G 26) x) i = if i = 26 then g_set (G 26) x else if i = 35 + x then k else if i = 27 + x then y else G i := fun i => rfl
            refine h _ _ (CR_road hC (WG_side hW hx hy hk2) (RC_of h12 hR (fun i hi => ?_) (am_ui_n (by omega)) (am_ui_n (by omega)) ?_ (am_ui_e.trans (by rw [e, if_pos rfl])) ?_ rfl rfl rfl (fun q hq hst => ?_)) (fun a ha => by rw [am_ui_o (by omega), am_ui_o (by omega), am_ui_o (by omega)]) (fun _ _ => rfl))
            · rw [e, if_neg (by omega), if_neg (by omega), if_neg (by omega)]
            · rw [e, if_neg (by omega), if_neg (by omega), if_neg (by omega)]
              exact (am_ui_n (by omega)).trans r7
            · rw [e, if_neg (by omega), if_neg (by omega), if_neg (by omega)]
              exact (am_ui_n (by omega)).trans r9
            · rw [e, if_pos rfl, g_set_t] at hst
              rw [e, e, if_neg (by omega), if_neg (by omega)]
              by_cases z : q = x
              · subst z
                rw [if_pos rfl, if_neg (by omega), if_pos rfl]
                refine ⟨?_, ?_⟩
                · exact ((am_uo (show (1 + 4 : Nat) ≠ 1 by omega)).trans (am_uo (show (1 + 4 : Nat) ≠ 6 by omega))).trans am_ui_e
                · exact (am_uo (show (1 + 5 : Nat) ≠ 1 by omega)).trans am_ui_e
              · rw [if_neg (by omega), if_neg (by omega), if_neg (by omega), if_neg (by omega)]
                simp only [z, decide_false, Bool.or_false] at hst
                exact ⟨(((am_uo (show (1 + 4 : Nat) ≠ 1 by omega)).trans (am_uo (show (1 + 4 : Nat) ≠ 6 by omega))).trans (am_uk z)).trans (rs q hq hst).1, (((am_uo (show (1 + 5 : Nat) ≠ 1 by omega)).trans (am_uk z)).trans (am_uo (show (1 + 5 : Nat) ≠ 5 by omega))).trans (rs q hq hst).2⟩
        · rw [if_pos (Or.inr (Or.inr hw))] at h
          exact hG2 [] 100 0 _ _ _ _ (am_f (am_bp hp) (am_f (am_bp hs) (And.intro (Or.inl rfl) (am_nf (am_bn (by rw [r5]; exact hw)) (h I L hC)))))
      · rw [if_pos (Or.inr (Or.inl hs))] at h
        exact hG2 [] 100 0 _ _ _ _ (am_f (am_bp hp) (am_t (am_bn hs) (h I L hC)))
    · rw [if_pos (Or.inl hp)] at h
      exact hG2 [] 100 0 _ _ _ _ (am_t (am_bn hp) (h I L hC))
  · exact h.elim
def T_RP_strike : am_Sp := fun vs I L post => match vs with
  | [.ref o, .int p] => o = 0 ∧ ∃ A, CR I L A ∧ ∀ (I2 : am_I) (L2 : am_J), CR I2 L2 (o_strike A p).2 → post (some (.int (o_strike A p).1)) I2 L2
  | _ => False
def sp_RP_strike : Nat → am_Sp := fun i => match i with
  | 47 => T_RP_isPlace
  | 91 => T_IN_bitCount
  | 96 => T_RD_hasStone
  | 99 => T_RD_takeStone
  | _ => am_no
set_option maxRecDepth 100000 in
theorem ok_RP_strike : am_Ok am_SX sp_RP_strike false k_RP_strike 2 T_RP_strike := by
  intro vs I L post h
  unfold T_RP_strike at h
  split at h
  · rename_i o p
    obtain ⟨rfl, A, hC, h⟩ := h
    refine ⟨Nat.le_of_ble_eq_true rfl, fun G2 hG2 => ?_⟩
    obtain ⟨G, K, hk, tn, tt, ln, sz, it⟩ := A
    obtain ⟨hV, hR, hKr, hk7, hT, hS, hSh⟩ := id hC
    have hW : WG G := hV.1
    have h12 := hW.1
    obtain ⟨r5, r6, r7, r8, r9, rw2, rj, rs, rn, rc⟩ := id hR
    dsimp only [o_strike] at h
    by_cases hp : 0 ≤ p ∧ p < 8
    · rw [if_neg (fun q => q hp)] at h
      refine hG2 [] 100 0 _ _ _ _ (am_nt (am_bp hp) (And.intro (Or.inl rfl) ?_))
      obtain ⟨x, hx, rfl⟩ := am_rng (n := 8) (by omega) hp.1 hp.2
      rw [nI_clamp (by omega)] at h
      have hb : f_bit (I 1 8) (nI x) = am_b ((G 26).testBit x = true) := by rw [r8, f_bit_nI _ (by omega)]
      by_cases hst : (G 26).testBit x = true
      · rw [if_neg (fun q => q hst)] at h
        refine am_nt (am_bp (by rw [hb, am_b1 hst])) (And.intro (Or.inl rfl) ?_)
        show post (some (.int (f_bc (am_ui I 1 8 (I 1 8 &&& (((1 : Int32) <<< (nI x &&& 31)) ^^^ (-1))) 1 8)))) (am_ui I 1 8 (I 1 8 &&& (((1 : Int32) <<< (nI x &&& 31)) ^^^ (-1)))) L
        have h26 : g_clr (G 26) x < 2 ^ 8 := g_clr_lt hW.2.2.2.2.2.2.1 hx
        rw [am_ui_e, r8, g_clr_I _ (by omega), f_bc_nI _ (by omega)]
        have e : ∀ i, g_put G 26 (g_clr (G 26) x) i = if i = 26 then g_clr (G 26) x else G i := fun i => rfl
        refine h _ _ (CR_road hC (WG_clr hW hx) (RC_of h12 hR (fun i hi => by rw [e, if_neg (by omega)]) (am_ui_n (by omega)) (am_ui_n (by omega)) (by rw [e, if_neg (by omega)]; exact (am_ui_n (by omega)).trans r7) (am_ui_e.trans (by rw [e, if_pos rfl])) (by rw [e, if_neg (by omega)]; exact (am_ui_n (by omega)).trans r9) rfl rfl rfl (fun q hq hq2 => ?_)) (fun a ha => am_ui_o (by omega)) (fun _ _ => rfl))
        rw [e, if_pos rfl, g_clr_t] at hq2
        simp only [Bool.and_eq_true] at hq2
        rw [e, e, if_neg (by omega), if_neg (by omega), am_ui_n (by omega), am_ui_n (by omega)]
        exact rs q hq hq2.1
      · rw [if_pos hst] at h
        exact am_nf (am_bn (by rw [hb, am_b0 hst]; decide)) (h I L hC)
    · rw [if_pos hp] at h
      exact hG2 [] 100 0 _ _ _ _ (am_nf (am_bn hp) (h I L hC))
  · exact h.elim
def T_RP_of : am_Sp := fun vs I L post => match vs with
  | [.ref o, .int p, .int x] => o = 0 ∧ ∃ A, CR I L A ∧ ∀ (I2 : am_I) (L2 : am_J), CR I2 L2 (o_of A p x).2 → post (some (.int (o_of A p x).1)) I2 L2
  | _ => False
def sp_RP_of : Nat → am_Sp := fun i => match i with
  | 47 => T_RP_isPlace
  | 96 => T_RD_hasStone
  | 103 => T_RP_isFrom0
  | 106 => T_RD_sideOf
  | 109 => T_RD_aboutOf
  | _ => am_no
set_option maxRecDepth 100000 in
theorem ok_RP_of : am_Ok am_SX sp_RP_of false k_RP_of 3 T_RP_of := by
  intro vs I L post h
  unfold T_RP_of at h
  split at h
  · rename_i o p x
    obtain ⟨rfl, A, hC, h⟩ := h
    refine ⟨Nat.le_of_ble_eq_true rfl, fun G2 hG2 => ?_⟩
    obtain ⟨G, K, hk, tn, tt, ln, sz, it⟩ := A
    obtain ⟨hV, hR, hKr, hk7, hT, hS, hSh⟩ := id hC
    have hW : WG G := hV.1
    have h12 := hW.1
    obtain ⟨r5, r6, r7, r8, r9, rw2, rj, rs, rn, rc⟩ := id hR
    dsimp only [o_of] at h
    by_cases hp : 0 ≤ p ∧ p < 8
    · by_cases hx : 0 ≤ x ∧ x < 2
      · rw [if_neg (by rintro (q | q); exact q hp; exact q hx)] at h
        refine hG2 [] 100 0 _ _ _ _ (am_f (am_bp hp) (am_nt (am_bp hx) (And.intro (Or.inl rfl) ?_)))
        obtain ⟨y, hy, rfl⟩ := am_rng (n := 8) (by omega) hp.1 hp.2
        have cy : (nI y).toNatClampNeg = y := nI_clamp (by omega)
        rw [cy] at h
        have hb : f_bit (I 1 8) (nI y) = am_b ((G 26).testBit y = true) := by rw [r8, f_bit_nI _ (by omega)]
        by_cases hst : (G 26).testBit y = true
        · rw [if_neg (fun q => q hst)] at h
          refine am_nt (am_bp (by rw [hb, am_b1 hst])) ?_
          by_cases h0 : x = 0
          · rw [if_pos h0] at h
            refine am_nf h0 (And.intro (Or.inl rfl) ?_)
            show post (some (.int (f_side I 1 (nI y)))) I L
            unfold f_side
            rw [if_pos hp, cy, (rs y hy hst).1]
            exact h I L hC
          · rw [if_neg h0] at h
            refine am_nt h0 (And.intro (Or.inl rfl) ?_)
            show post (some (.int (f_about I 1 (nI y)))) I L
            unfold f_about
            rw [if_pos hp, cy, (rs y hy hst).2]
            exact h I L hC
        · rw [if_pos hst] at h
          exact am_nf (am_bn (by rw [hb, am_b0 hst]; decide)) (h I L hC)
      · rw [if_pos (Or.inr hx)] at h
        exact hG2 [] 100 0 _ _ _ _ (am_f (am_bp hp) (am_nf (am_bn hx) (h I L hC)))
    · rw [if_pos (Or.inl hp)] at h
      exact hG2 [] 100 0 _ _ _ _ (am_t (am_bn hp) (h I L hC))
  · exact h.elim
def T_RP_home : am_Sp := fun vs I L post => match vs with
  | [.ref o, .int p] => o = 0 ∧ ∃ A, CR I L A ∧ ∀ (I2 : am_I) (L2 : am_J), CR I2 L2 (o_home A p).2 → post (some (.int (o_home A p).1)) I2 L2
  | _ => False
def sp_RP_home : Nat → am_Sp := fun i => match i with
  | 47 => T_RP_isPlace
  | _ => am_no
set_option maxRecDepth 100000 in
theorem ok_RP_home : am_Ok am_SX sp_RP_home false k_RP_home 3 T_RP_home := by
  intro vs I L post h
  unfold T_RP_home at h
  split at h
  · rename_i o p
    obtain ⟨rfl, A, hC, h⟩ := h
    refine ⟨Nat.le_of_ble_eq_true rfl, fun G2 hG2 => ?_⟩
    obtain ⟨G, K, hk, tn, tt, ln, sz, it⟩ := A
    obtain ⟨hV, hR, hKr, hk7, hT, hS, hSh⟩ := id hC
    have hW : WG G := hV.1
    have h12 := hW.1
    obtain ⟨r5, r6, r7, r8, r9, rw2, rj, rs, rn, rc⟩ := id hR
    dsimp only [o_home] at h
    by_cases hp : 0 ≤ p ∧ p < 8
    · rw [if_neg (fun q => q hp)] at h
      refine hG2 [] 100 0 _ _ _ _ (am_nt (am_bp hp) ?_)
      obtain ⟨x, hx, rfl⟩ := am_rng (n := 8) (by omega) hp.1 hp.2
      rw [nI_clamp (by omega)] at h
      show post (some (.int (I 1 9))) (am_ui I 1 9 (nI x)) L
      rw [r9]
      have e : ∀ i, g_put G 43 x i = if i = 43 then x else G i := fun i => rfl
      refine h _ _ (CR_road hC (WG_home hW hx) (RC_of h12 hR (fun i hi => by rw [e, if_neg (by omega)]) (am_ui_n (by omega)) (am_ui_n (by omega)) (by rw [e, if_neg (by omega)]; exact (am_ui_n (by omega)).trans r7) (by rw [e, if_neg (by omega)]; exact (am_ui_n (by omega)).trans r8) (am_ui_e.trans (by rw [e, if_pos rfl])) rfl rfl rfl (fun q hq hq2 => ?_)) (fun a ha => am_ui_o (by omega)) (fun _ _ => rfl))
      rw [e, if_neg (by omega)] at hq2
      rw [e, e, if_neg (by omega), if_neg (by omega), am_ui_n (by omega), am_ui_n (by omega)]
      exact rs q hq hq2
    · rw [if_pos hp] at h
      exact hG2 [] 100 0 _ _ _ _ (am_nf (am_bn hp) (h I L hC))
  · exact h.elim
def T_RP_snow : am_Sp := fun vs I L post => match vs with
  | [.ref o, .int s] => o = 0 ∧ ∃ A, CR I L A ∧ ∀ (I2 : am_I) (L2 : am_J), CR I2 L2 (o_snow A s).2 → post (some (.int (o_snow A s).1)) I2 L2
  | _ => False
abbrev sp_RP_snow : Nat → am_Sp := fun _ => am_no
set_option maxRecDepth 100000 in
theorem ok_RP_snow : am_Ok am_SX sp_RP_snow false k_RP_snow 3 T_RP_snow := by
  intro vs I L post h
  unfold T_RP_snow at h
  split at h
  · rename_i o s
    obtain ⟨rfl, A, hC, h⟩ := h
    refine ⟨Nat.le_of_ble_eq_true rfl, fun G2 hG2 => ?_⟩
    obtain ⟨G, K, hk, tn, tt, ln, sz, it⟩ := A
    obtain ⟨hV, hR, hKr, hk7, hT, hS, hSh⟩ := id hC
    have hW : WG G := hV.1
    have h12 := hW.1
    obtain ⟨r5, r6, r7, r8, r9, rw2, rj, rs, rn, rc⟩ := id hR
    dsimp only [o_snow] at h
    by_cases hs : s &&& (nI (G 25) ^^^ (-1)) = 0
    · rw [if_neg (fun q => q hs)] at h
      refine hG2 [] 100 0 _ _ _ _ (am_t (by rw [r6]; exact hs) ?_)
      show post (some (.int (I 1 7))) (am_ui I 1 7 s) L
      rw [r7]
      obtain ⟨m, hm, rfl, hsub⟩ := am_snow hW.2.2.2.1 hs
      rw [nI_clamp (by omega)] at h
      have e : ∀ i, g_put G 44 m i = if i = 44 then m else G i := fun i => rfl
      refine h _ _ (CR_road hC (WG_snow hW hsub hm) (RC_of h12 hR (fun i hi => by rw [e, if_neg (by omega)]) (am_ui_n (by omega)) (am_ui_n (by omega)) (am_ui_e.trans (by rw [e, if_pos rfl])) (by rw [e, if_neg (by omega)]; exact (am_ui_n (by omega)).trans r8) (by rw [e, if_neg (by omega)]; exact (am_ui_n (by omega)).trans r9) rfl rfl rfl (fun q hq hq2 => ?_)) (fun a ha => am_ui_o (by omega)) (fun _ _ => rfl))
      rw [e, if_neg (by omega)] at hq2
      rw [e, e, if_neg (by omega), if_neg (by omega), am_ui_n (by omega), am_ui_n (by omega)]
      exact rs q hq hq2
    · rw [if_pos hs] at h
      exact hG2 [] 100 0 _ _ _ _ (am_f (by rw [r6]; exact hs) (h I L hC))
  · exact h.elim
def T_RP_count : am_Sp := fun vs I L post => match vs with
  | [.ref o, .int x] => o = 0 ∧ ∃ A, CR I L A ∧ ∀ (I2 : am_I) (L2 : am_J), CR I2 L2 (o_count A x).2 → post (some (.int (o_count A x).1)) I2 L2
  | _ => False
def sp_RP_count : Nat → am_Sp := fun i => match i with
  | 91 => T_IN_bitCount
  | _ => am_no
set_option maxRecDepth 100000 in
theorem ok_RP_count : am_Ok am_SX sp_RP_count false k_RP_count 2 T_RP_count := by
  intro vs I L post h
  unfold T_RP_count at h
  split at h
  · rename_i o x
    obtain ⟨rfl, A, hC, h⟩ := h
    refine ⟨Nat.le_of_ble_eq_true rfl, fun G2 hG2 => ?_⟩
    obtain ⟨G, K, hk, tn, tt, ln, sz, it⟩ := A
    obtain ⟨hV, hR, hKr, hk7, hT, hS, hSh⟩ := id hC
    have hW : WG G := hV.1
    have h12 := hW.1
    obtain ⟨r5, r6, r7, r8, r9, rw2, rj, rs, rn, rc⟩ := id hR
    dsimp only [o_count] at h
    refine hG2 [] 100 0 _ _ _ _ (And.intro (fun q => ?_) (fun q0 => And.intro (fun q => ?_) (fun q1 => And.intro (fun q => ?_) (fun q2 => And.intro (fun q => ?_) (fun q3 => And.intro (fun q => ?_) (fun q4 => ?_))))))
    · have hx : x = 0 := q
      rw [if_pos hx] at h
      show post (some (.int (I 1 5))) I L
      rw [r5]; exact h I L hC
    · have hx : x = 1 := q
      subst hx
      rw [if_neg (by decide), if_pos rfl] at h
      show post (some (.int (I 1 6))) I L
      rw [r6]; exact h I L hC
    · have hx : x = 2 := q
      subst hx
      rw [if_neg (by decide), if_neg (by decide), if_pos rfl] at h
      show post (some (.int (f_bc (I 1 8)))) I L
      have h26 := hW.2.2.2.2.2.2.1
      rw [r8, f_bc_nI _ (by omega)]; exact h I L hC
    · have hx : x = 3 := q
      subst hx
      rw [if_neg (by decide), if_neg (by decide), if_neg (by decide), if_pos rfl] at h
      show post (some (.int (I 1 9))) I L
      rw [r9]; exact h I L hC
    · have hx : x = 4 := q
      subst hx
      rw [if_neg (by decide), if_neg (by decide), if_neg (by decide), if_neg (by decide), if_pos rfl] at h
      show post (some (.int (I 1 7))) I L
      rw [r7]; exact h I L hC
    · have p0 : ¬ x = 0 := q0
      have p1 : ¬ x = 1 := q1
      have p2 : ¬ x = 2 := q2
      have p3 : ¬ x = 3 := q3
      have p4 : ¬ x = 4 := q4
      rw [if_neg p0, if_neg p1, if_neg p2, if_neg p3, if_neg p4] at h
      exact h I L hC
  · exact h.elim
def T_RP_read : am_Sp := fun vs I L post => match vs with
  | [.ref o, .int p, .int f] => o = 0 ∧ ∃ A, CR I L A ∧ ∀ (I2 : am_I) (L2 : am_J), CR I2 L2 (o_read A p f).2 → post (some (.int (o_read A p f).1)) I2 L2
  | _ => False
def sp_RP_read : Nat → am_Sp := fun i => match i with
  | 47 => T_RP_isPlace
  | 51 => T_RD_isJoined
  | 96 => T_RD_hasStone
  | 136 => T_RD_saysOpen
  | _ => am_no
set_option maxRecDepth 100000 in
theorem ok_RP_read : am_Ok am_SX sp_RP_read false k_RP_read 3 T_RP_read := by
  intro vs I L post h
  unfold T_RP_read at h
  split at h
  · rename_i o p f
    obtain ⟨rfl, A, hC, h⟩ := h
    refine ⟨Nat.le_of_ble_eq_true rfl, fun G2 hG2 => ?_⟩
    obtain ⟨G, K, hk, tn, tt, ln, sz, it⟩ := A
    obtain ⟨hV, hR, hKr, hk7, hT, hS, hSh⟩ := id hC
    have hW : WG G := hV.1
    have h12 := hW.1
    obtain ⟨r5, r6, r7, r8, r9, rw2, rj, rs, rn, rc⟩ := id hR
    dsimp only [o_read] at h
    by_cases hp : 0 ≤ p ∧ p < 8
    · by_cases hf : 0 ≤ f ∧ f < 8
      · rw [if_neg (by rintro (q | q); exact q hp; exact q hf)] at h
        refine hG2 [] 100 0 _ _ _ _ (am_f (am_bp hp) (am_nt (am_bp hf) (And.intro (Or.inl rfl) ?_)))
        obtain ⟨x, hx, rfl⟩ := am_rng (n := 8) (by omega) hp.1 hp.2
        obtain ⟨y, hy, rfl⟩ := am_rng (n := 8) (by omega) hf.1 hf.2
        have cx : (nI x).toNatClampNeg = x := nI_clamp (by omega)
        rw [cx, nI_clamp (by omega)] at h
        have hle := g_wy_le G x y
        have hfw := f_wb_RC hR hx hy
        by_cases hj : g_wy G x y = 0
        · rw [if_pos hj] at h
          exact am_nf (am_b0 (by rw [hfw, nI_m1 (by omega)]; exact fun q => q hj)) (h I L hC)
        · rw [if_neg hj] at h
          refine am_nt (am_bp (by rw [hfw, nI_m1 (by omega)]; exact hj)) (And.intro (Or.inl rfl) ?_)
          have hb : f_bit (I 1 8) (nI x) = am_b ((G 26).testBit x = true) := by rw [r8, f_bit_nI _ (by omega)]
          by_cases hst : (G 26).testBit x = true
          · rw [if_neg (fun q => q hst)] at h
            refine am_nt (am_bp (by rw [hb, am_b1 hst])) (And.intro (Or.inl rfl) ?_)
            have hg := rs x hx hst
            have hgb := hW.2.2.2.2.2.2.2.1 x hx hst
            have e1 : (f_bit (I 1 7) (f_about I 1 (nI x)) = 0 ↔ ((0 ≤ nI x ∧ nI x < 8) ∧ I (1 + 4) (nI x).toNatClampNeg = nI y)) ↔ ((G 44).testBit (G (35 + x)) = false ↔ G (27 + x) = y) := by
              unfold f_about
              rw [if_pos hp, cx, hg.1, hg.2, r7, f_bit_nI _ (by omega), am_bz, nI_eq (by omega) (by omega)]
              simp [am_pl8 hx]
            by_cases hq : (G 44).testBit (G (35 + x)) = false ↔ G (27 + x) = y
            · rw [am_b1 hq] at h
              exact am_f (am_bp (e1.mpr hq)) (h I L hC)
            · rw [am_b0 hq] at h
              exact am_t (am_bn (fun z => hq (e1.mp z))) (h I L hC)
          · rw [if_pos hst] at h
            exact am_nf (am_bn (by rw [hb, am_b0 hst]; decide)) (h I L hC)
      · rw [if_pos (Or.inr hf)] at h
        exact hG2 [] 100 0 _ _ _ _ (am_f (am_bp hp) (am_nf (am_bn hf) (h I L hC)))
    · rw [if_pos (Or.inl hp)] at h
      exact hG2 [] 100 0 _ _ _ _ (am_t (am_bn hp) (h I L hC))
  · exact h.elim
def T_RP_image : am_Sp := fun vs I L post => match vs with
  | [.ref o] => o = 0 ∧ ∃ A, CR I L A ∧ ∀ (I2 : am_I) (L2 : am_J), CR I2 L2 (o_image A ).2 → post (some (.int (o_image A ).1)) I2 L2
  | _ => False
def sp_RP_image : Nat → am_Sp := fun i => match i with
  | 129 => T_RD_become
  | _ => am_no
set_option maxRecDepth 100000 in
theorem ok_RP_image : am_Ok am_SX sp_RP_image false k_RP_image 1 T_RP_image := by
  intro vs I L post h
  unfold T_RP_image at h
  split at h
  · rename_i o
    obtain ⟨rfl, A, hC, h⟩ := h
    refine ⟨Nat.le_of_ble_eq_true rfl, fun G2 hG2 => ?_⟩
    obtain ⟨G, K, hk, tn, tt, ln, sz, it⟩ := A
    obtain ⟨hV, hR, hKr, hk7, hT, hS, hSh⟩ := id hC
    have hW : WG G := hV.1
    have h12 := hW.1
    obtain ⟨r5, r6, r7, r8, r9, rw2, rj, rs, rn, rc⟩ := id hR
    dsimp only [o_image] at h
    refine hG2 [] 100 0 _ _ _ _ (And.intro (Or.inr (Or.inl ⟨rfl, rfl⟩)) (Exists.intro G (And.intro h12 (And.intro hR (fun I2 L2 hR2 hf => And.intro (Or.inr rfl) ?_)))))
    show post (some (.int 1)) (am_ui I2 0 7 1) L2
    obtain ⟨V, hS⟩ := hS
    have fo : ∀ a : Nat, (a < 7 ∨ 12 < a) → I2 a = I a := fun a ha => hf.1 a (by omega)
    have fl : ∀ a : Nat, a ≠ 7 → L2 a = L a := fun a ha => hf.2 a ha
    have fi : ∀ a : Nat, 0 < a → (a < 7 ∨ 12 < a) → am_ui I2 0 7 1 a = I a := fun a h0 ha => (am_ui_o (by omega)).trans (fo a ha)
    refine h _ _ ⟨⟨hW, hW, hV.2.2⟩, RC_fr hR (fun a h1 h2 => fi a (by omega) (by omega)) (fl 1 (by omega)), RC_fr hR2 (fun a h1 h2 => am_ui_o (by omega)) rfl, am_ui_e.trans (am_b1 rfl).symm, TP_fr hT (by rw [fi 19 (by omega) (by omega)]) (fi 20 (by omega) (by omega)), ⟨V, SC_fr hS (by rw [fi 22 (by omega) (by omega)]) (fi 24 (by omega) (by omega)) (fl 23 (by omega))⟩, SHc_fr hSh (fun a h1 h2 => fi a (by omega) (by omega)) (fun a h1 h2 => fl a (by omega))⟩
  · exact h.elim
def T_RP_restore : am_Sp := fun vs I L post => match vs with
  | [.ref o] => o = 0 ∧ ∃ A, CR I L A ∧ ∀ (I2 : am_I) (L2 : am_J), CR I2 L2 (o_restore A ).2 → post (some (.int (o_restore A ).1)) I2 L2
  | _ => False
def sp_RP_restore : Nat → am_Sp := fun i => match i with
  | 129 => T_RD_become
  | _ => am_no
set_option maxRecDepth 100000 in
theorem ok_RP_restore : am_Ok am_SX sp_RP_restore false k_RP_restore 1 T_RP_restore := by
  intro vs I L post h
  unfold T_RP_restore at h
  split at h
  · rename_i o
    obtain ⟨rfl, A, hC, h⟩ := h
    refine ⟨Nat.le_of_ble_eq_true rfl, fun G2 hG2 => ?_⟩
    obtain ⟨G, K, hk, tn, tt, ln, sz, it⟩ := A
    obtain ⟨hV, hR, hKr, hk7, hT, hS, hSh⟩ := id hC
    have hW : WG G := hV.1
    have h12 := hW.1
    obtain ⟨r5, r6, r7, r8, r9, rw2, rj, rs, rn, rc⟩ := id hR
    dsimp only [o_restore] at h
    cases hk with
    | false =>
      rw [if_neg (by decide)] at h
      refine hG2 [] 100 0 _ _ _ _ (am_nf ?_ (h I L hC))
      show I 0 7 = 0
      rw [hk7, am_b0 (by decide)]
    | true =>
      rw [if_pos rfl] at h
      refine hG2 [] 100 0 _ _ _ _ (am_nt ?_ (And.intro (Or.inr (Or.inr ⟨rfl, rfl⟩)) (Exists.intro K (And.intro hV.2.1.1 (And.intro hKr (fun I2 L2 hR2 hf => ?_))))))
      · show ¬ I 0 7 = 0
        rw [hk7, am_b1 rfl]; decide
      · show post (some (.int 1)) I2 L2
        exact h I2 L2 (CR_road (G := G) hC hV.2.1 hR2 (fun a ha => hf.1 a (show a < 1 ∨ 6 < a by omega)) (fun a ha => hf.2 a ha))
  · exact h.elim
