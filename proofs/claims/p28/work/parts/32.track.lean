/-! THE CLASS: which snows may have been -/
def o_track : am_A → Int32 → Int32 → Int32 → Int32 → Int32 → Int32 → Int32 → Int32 × am_A
  | (G, K, hk, tn, tt, ln, sz, it), kind, f, s, a, i, n, what => if ¬ ((0 ≤ kind ∧ kind < 4) ∧ (0 ≤ f ∧ f < 8) ∧ (0 ≤ s ∧ s < 4) ∧ (0 ≤ a ∧ a < 3) ∧ (1 ≤ n ∧ n ≤ 24)) ∨ ¬ (0 ≤ what ∧ what < 3) then (-1, (G, K, hk, tn, tt, ln, sz, it)) else if ¬ o_bars ln sz s.toNatClampNeg a i n = 0 then (o_bars ln sz s.toNatClampNeg a i n, (G, K, hk, tn, tt, ln, sz, it)) else
    ((if what = 0 then nI (g_tr (fun m => g_lv G kind.toNatClampNeg m f.toNatClampNeg n.toNatClampNeg (fun k => it s.toNatClampNeg (i.toNatClampNeg + k))) (G 25) 4096).1 else if (g_tr (fun m => g_lv G kind.toNatClampNeg m f.toNatClampNeg n.toNatClampNeg (fun k => it s.toNatClampNeg (i.toNatClampNeg + k))) (G 25) 4096).1 = 0 then -4 else if what = 1 then (g_tr (fun m => g_lv G kind.toNatClampNeg m f.toNatClampNeg n.toNatClampNeg (fun k => it s.toNatClampNeg (i.toNatClampNeg + k))) (G 25) 4096).2.1 else (g_tr (fun m => g_lv G kind.toNatClampNeg m f.toNatClampNeg n.toNatClampNeg (fun k => it s.toNatClampNeg (i.toNatClampNeg + k))) (G 25) 4096).2.2), (G, K, hk, tn, tt, ln, sz, it))
theorem g_cnt_at {P : Nat → Bool} {u : Nat} (h : P u = true) : g_cnt P (u + 1) = g_cnt P u + 1 := by simp only [g_cnt]; rw [if_pos h]
def T_RP_track : am_Sp := fun vs I L post => match vs with
  | [.ref o, .int x, .int y, .int z, .int a, .int i, .int n, .int what] => o = 0 ∧ ∃ A, CR I L A ∧ ∀ (I2 : am_I) (L2 : am_J), CR I2 L2 (o_track A x y z a i n what).2 → post (some (.int (o_track A x y z a i n what).1)) I2 L2
  | _ => False
def sp_RP_track : Nat → am_Sp := fun i => match i with
  | 103 => T_RP_isFrom0
  | 177 => T_RP_isFilmable
  | 181 => T_SH_refusal
  | 184 => T_SH_has
  | 187 => T_RP_leaves
  | _ => am_no
set_option maxRecDepth 100000 in
set_option maxHeartbeats 4000000 in
theorem ok_RP_track : am_Ok am_SX sp_RP_track false k_RP_track 15 T_RP_track := by
  intro vs I L post h
  unfold T_RP_track at h
  split at h
  · rename_i o x y z a i n what
    obtain ⟨rfl, A, hC, h⟩ := h
    refine ⟨Nat.le_of_ble_eq_true rfl, fun G2 hG2 => ?_⟩
    obtain ⟨G, K, hk, tn, tt, ln, sz, it⟩ := A
    obtain ⟨hV, hR, hKr, hk7, hT, hS, hSh⟩ := id hC
    have hW : WG G := hV.1
    have h12 := hW.1
    dsimp only [o_track] at h
    by_cases hP : (0 ≤ x ∧ x < 4) ∧ (0 ≤ y ∧ y < 8) ∧ (0 ≤ z ∧ z < 4) ∧ (0 ≤ a ∧ a < 3) ∧ (1 ≤ n ∧ n ≤ 24)
    · by_cases hw : 0 ≤ what ∧ what < 3
      · rw [if_neg (by rintro (q | q); exact q hP; exact q hw)] at h
        obtain ⟨kind, hk4, rfl⟩ := am_rng (n := 4) (by omega) hP.1.1 hP.1.2
        obtain ⟨f, hf8, rfl⟩ := am_rng (n := 8) (by omega) hP.2.1.1 hP.2.1.2
        obtain ⟨s, hs4, rfl⟩ := am_rng (n := 4) (by omega) hP.2.2.1.1 hP.2.2.1.2
        obtain ⟨nn, hn25, rfl⟩ := am_rng (n := 25) (by omega) (Int32.le_trans (by decide) hP.2.2.2.2.1) (Int32.lt_of_le_of_lt hP.2.2.2.2.2 (by decide))
        rw [nI_clamp (n := kind) (by omega), nI_clamp (n := f) (by omega), nI_clamp (n := s) (by omega), nI_clamp (n := nn) (by omega)] at h
        rcases (show s = 0 ∨ s = 1 ∨ s = 2 ∨ s = 3 by omega) with rfl | rfl | rfl | rfl
        · have q : I 26 1 = ln 0 ∧ (¬ ln 0 = -1 → I 26 2 = nI (sz 0)) ∧ ∀ j, j < 24 → L 27 j = it 0 j := hSh 0 (by omega)
          have hz24 := (hV.2.2.2.2 0 (by omega)).2
          have h25 : G 25 < 4096 := hW.2.2.2.1
          refine hG2 [(91, [])] 100 0 _ _ _ _ (am_f (am_bp hP) (am_nt (am_bp hw) (And.intro (am_vin (N := 4) (n := 0) (by omega) rfl) (And.intro rfl (And.intro (by decide) (am_alS (s := 0) (o := 26) (by omega) rfl (And.intro (Or.inl rfl) ?_)))))))
          by_cases hl : ln 0 = -1
          · have e : o_bars ln sz 0 a i (nI nn) = -11 := by unfold o_bars; rw [if_pos hl]
            rw [e, if_pos (by decide)] at h
            rw [if_pos (q.1.trans hl)]
            exact am_f (by decide) (h I L hC)
          · rw [if_neg (fun z => hl (q.1.symm.trans z))]
            by_cases hla : ln 0 = a
            · rw [if_pos (q.1.trans hla)]
              refine am_t rfl (And.intro (Or.inl rfl) ?_)
              have br := @o_bars_ran ln sz 0 a i (nI nn) hl hla
              rw [am_has hz24 (q.2.1 hl)]
              by_cases hi : 0 ≤ i.toInt ∧ 0 ≤ (nI nn).toInt ∧ i.toInt + (nI nn).toInt ≤ (sz 0 : Int)
              · rw [if_neg (fun z => z (br.mpr hi))] at h
                refine am_nt (am_bp hi) ?_
                obtain ⟨ii, hii, rfl⟩ := nI_of (am_n0 hi.1)
                rw [nI_toInt hii, nI_toInt (by omega)] at hi
                rw [nI_clamp hii] at h
                have hz : ii + nn ≤ sz 0 := by omega
                show G2 91 [some (.ref 0), some (.int (nI kind)), some (.int (nI f)), some (.int (nI 0)), some (.int a), some (.int (nI ii)), some (.int (nI nn)), some (.int what), some (.ref 26), some (.int 0), some (.int (0)), some (.int (I 1 6)), some (.int (I 1 6)), some (.int (0)), some (.int (0))] [] I L
                rw [hR.2.1]
                generalize hM : (fun m => g_lv G kind m f nn (fun k => it 0 (ii + k))) = M at h
                have fin : ∀ (I1 : am_I) (L1 : am_J) (sn kk : Int32), CR I1 L1 (G, K, hk, tn, tt, ln, sz, it) → G2 168 [some (.ref 0), some (.int (nI kind)), some (.int (nI f)), some (.int (nI 0)), some (.int a), some (.int (nI ii)), some (.int (nI nn)), some (.int what), some (.ref 26), some (.int 0), some (.int (nI (g_tr M (G 25) (4096)).1)), some (.int ((g_tr M (G 25) (4096)).2.1)), some (.int ((g_tr M (G 25) (4096)).2.2)), some (.int (sn)), some (.int (kk))] [] I1 L1 := by
                  intro I1 L1 sn kk hC1
                  have hle := g_tr_le M (G 25) 4096
                  refine hG2 [] 100 168 _ _ _ _ ?_
                  by_cases w0 : what = 0
                  · rw [if_pos w0] at h
                    exact am_nf w0 (h I1 L1 hC1)
                  · rw [if_neg w0] at h
                    refine am_nt w0 ?_
                    by_cases c0 : (g_tr M (G 25) 4096).1 = 0
                    · rw [if_pos c0] at h
                      exact am_nf (by rw [c0]; rfl) (h I1 L1 hC1)
                    · rw [if_neg c0] at h
                      refine am_nt (nI_ne0 (by omega) (by omega)) ?_
                      by_cases w1 : what = 1
                      · rw [if_pos w1] at h
                        exact am_nf w1 (h I1 L1 hC1)
                      · rw [if_neg w1] at h
                        exact am_nt w1 (h I1 L1 hC1)
                have loop : ∀ d u k (I1 : am_I) (L1 : am_J), 64 - k = d → k ≤ 64 → CR I1 L1 (G, K, hk, tn, tt, ln, sz, it) → (∀ b, u.testBit b = true → (G 25).testBit b = true) → k ≤ g_cnt (fun v => decide (g_dif v (G 25) = 0)) u → G2 91 [some (.ref 0), some (.int (nI kind)), some (.int (nI f)), some (.int (nI 0)), some (.int a), some (.int (nI ii)), some (.int (nI nn)), some (.int what), some (.ref 26), some (.int 0), some (.int (nI (g_tr M (G 25) (u)).1)), some (.int ((g_tr M (G 25) (u)).2.1)), some (.int ((g_tr M (G 25) (u)).2.2)), some (.int (nI u)), some (.int (nI k))] [] I1 L1 := by
                  intro d
                  induction d with
                  | zero =>
                    intro u k I1 L1 hd hk64 hC1 hu hc
                    exfalso
                    have hud := am_sub_le hu
                    have h1 := g_cnt_mono (fun v => decide (g_dif v (G 25) = 0)) (show u + 1 ≤ 2 ^ 12 by omega)
                    rw [am_many] at h1
                    have h2 : 2 ^ g_pc (G 25) 12 ≤ 2 ^ 6 := Nat.pow_le_pow_right (by omega) hV.1.2.2.2.2.2.1
                    have h3 := g_cnt_at (P := fun v => decide (g_dif v (G 25) = 0)) (u := u) (decide_eq_true (g_dif_0.mpr hu))
                    omega
                  | succ d ih =>
                    intro u k I1 L1 hd hk64 hC1 hu hc
                    have hud := am_sub_le hu
                    have aft : ∀ (I2 : am_I) (L2 : am_J), CR I2 L2 (G, K, hk, tn, tt, ln, sz, it) → G2 134 [some (.ref 0), some (.int (nI kind)), some (.int (nI f)), some (.int (nI 0)), some (.int a), some (.int (nI ii)), some (.int (nI nn)), some (.int what), some (.ref 26), some (.int 0), some (.int (nI (g_tr M (G 25) (u + 1)).1)), some (.int ((g_tr M (G 25) (u + 1)).2.1)), some (.int ((g_tr M (G 25) (u + 1)).2.2)), some (.int (nI u)), some (.int (nI k))] [] I2 L2 := by
                      intro I2 L2 hC2
                      have h6 : I2 1 6 = nI (G 25) := hC2.2.1.2.1
                      refine hG2 [(91, []), (168, [])] 100 134 _ _ _ _ ?_
                      show (¬ (nI u - I2 1 6) &&& I2 1 6 = 0 → G2 91 [some (.ref 0), some (.int (nI kind)), some (.int (nI f)), some (.int (nI 0)), some (.int a), some (.int (nI ii)), some (.int (nI nn)), some (.int what), some (.ref 26), some (.int 0), some (.int (nI (g_tr M (G 25) (u + 1)).1)), some (.int ((g_tr M (G 25) (u + 1)).2.1)), some (.int ((g_tr M (G 25) (u + 1)).2.2)), some (.int ((nI u - I2 1 6) &&& I2 1 6)), some (.int (nI k + 1))] [] I2 L2) ∧ ((nI u - I2 1 6) &&& I2 1 6 = 0 → G2 168 [some (.ref 0), some (.int (nI kind)), some (.int (nI f)), some (.int (nI 0)), some (.int a), some (.int (nI ii)), some (.int (nI nn)), some (.int what), some (.ref 26), some (.int 0), some (.int (nI (g_tr M (G 25) (u + 1)).1)), some (.int ((g_tr M (G 25) (u + 1)).2.1)), some (.int ((g_tr M (G 25) (u + 1)).2.2)), some (.int ((nI u - I2 1 6) &&& I2 1 6)), some (.int (nI k))] [] I2 L2)
                      rw [h6, am_nxt_I hu, nI_1]
                      by_cases e : u = G 25
                      · refine am_nf (by unfold am_nxt; rw [if_pos e]; rfl) ?_
                        have e2 := g_tr_skip M (G 25) (u + 1) (4095 - u) (fun v h1 h2 z => by have := am_sub_le (g_dif_0.mp z); omega)
                        rw [show u + 1 + (4095 - u) = 4096 by omega] at e2
                        rw [← e2]
                        exact fin I2 L2 _ _ hC2
                      · obtain ⟨n1, n2, n3⟩ := am_nxt_spec hu e
                        have n4 := am_sub_le n1
                        refine am_nt (nI_ne0 (by omega) (by omega)) ?_
                        have e2 := g_tr_skip M (G 25) (u + 1) (am_nxt (G 25) u - (u + 1)) (fun v h1 h2 z => by have := n3 v (g_dif_0.mp z) (by omega); omega)
                        rw [show u + 1 + (am_nxt (G 25) u - (u + 1)) = am_nxt (G 25) u by omega] at e2
                        rw [← e2]
                        refine ih _ (k + 1) I2 L2 (by omega) (by omega) hC2 n1 ?_
                        have h1 := g_cnt_mono (fun v => decide (g_dif v (G 25) = 0)) (show u + 1 ≤ am_nxt (G 25) u by omega)
                        have h3 := g_cnt_at (P := fun v => decide (g_dif v (G 25) = 0)) (u := u) (decide_eq_true (g_dif_0.mpr hu))
                        omega
                    refine hG2 [(134, [])] 100 91 _ _ _ _ (am_nf (am_lt (show k < 64 by omega) rfl) (And.intro (rfl) (Exists.intro ((G, K, hk, tn, tt, ln, sz, it)) (Exists.intro (kind) (Exists.intro (f) (Exists.intro (u) (Exists.intro (0) (Exists.intro (ii) (Exists.intro (nn) (And.intro (hk4) (And.intro (hf8) (And.intro (by omega) (And.intro (rfl) (And.intro (by omega) (And.intro (hC1) (And.intro (hl) (And.intro (hz) (And.intro (rfl) (And.intro (rfl) (And.intro (rfl) (And.intro (rfl) (And.intro (rfl) (fun I2 L2 hC2 => ?_)))))))))))))))))))))))
                    dsimp only
                    have eM : g_lv G kind u f nn (fun k => it 0 (ii + k)) = M u := by rw [← hM]
                    rw [eM]
                    by_cases hm : M u = true
                    · have e1 : g_tr M (G 25) (u + 1) = ((g_tr M (G 25) u).1 + 1, (g_tr M (G 25) u).2.1 &&& nI u, (g_tr M (G 25) u).2.2 &&& (nI u ^^^ (-1))) := by
                        simp only [g_tr]; rw [if_pos ⟨g_dif_0.mpr hu, hm⟩]
                      have ha := aft I2 L2 hC2
                      rw [e1] at ha
                      refine am_f (am_bp hm) ?_
                      show G2 134 [some (.ref 0), some (.int (nI kind)), some (.int (nI f)), some (.int (nI 0)), some (.int a), some (.int (nI ii)), some (.int (nI nn)), some (.int what), some (.ref 26), some (.int 0), some (.int (nI (g_tr M (G 25) u).1 + 1)), some (.int ((g_tr M (G 25) u).2.1 &&& nI u)), some (.int ((g_tr M (G 25) u).2.2 &&& (nI u ^^^ (-1)))), some (.int (nI u)), some (.int (nI k))] [] I2 L2
                      rw [nI_1]
                      exact ha
                    · have e1 : g_tr M (G 25) (u + 1) = g_tr M (G 25) u := by
                        simp only [g_tr]; rw [if_neg (fun z => hm z.2)]
                      have ha := aft I2 L2 hC2
                      rw [e1] at ha
                      exact am_t (am_bn hm) ha
                exact loop 64 0 0 I L (by omega) (by omega) hC (fun b hb => by simp at hb) (Nat.zero_le _)
              · rw [if_pos (fun z => hi (br.mp z))] at h
                have e : o_bars ln sz 0 a i (nI nn) = -13 := by rw [o_bars_0 hl hla, if_neg hi]
                rw [e] at h
                exact am_nf (am_bn hi) (h I L hC)
            · have e : o_bars ln sz 0 a i (nI nn) = -12 := by unfold o_bars; rw [if_neg hl, if_pos hla]
              rw [e, if_pos (by decide)] at h
              rw [if_neg (fun z => hla (q.1.symm.trans z))]
              exact am_f (by decide) (h I L hC)
        · have q : I 28 1 = ln 1 ∧ (¬ ln 1 = -1 → I 28 2 = nI (sz 1)) ∧ ∀ j, j < 24 → L 29 j = it 1 j := hSh 1 (by omega)
          have hz24 := (hV.2.2.2.2 1 (by omega)).2
          have h25 : G 25 < 4096 := hW.2.2.2.1
          refine hG2 [(91, [])] 100 0 _ _ _ _ (am_f (am_bp hP) (am_nt (am_bp hw) (And.intro (am_vin (N := 4) (n := 1) (by omega) rfl) (And.intro rfl (And.intro (by decide) (am_alS (s := 1) (o := 28) (by omega) rfl (And.intro (Or.inr (Or.inl rfl)) ?_)))))))
          by_cases hl : ln 1 = -1
          · have e : o_bars ln sz 1 a i (nI nn) = -11 := by unfold o_bars; rw [if_pos hl]
            rw [e, if_pos (by decide)] at h
            rw [if_pos (q.1.trans hl)]
            exact am_f (by decide) (h I L hC)
          · rw [if_neg (fun z => hl (q.1.symm.trans z))]
            by_cases hla : ln 1 = a
            · rw [if_pos (q.1.trans hla)]
              refine am_t rfl (And.intro (Or.inr (Or.inl rfl)) ?_)
              have br := @o_bars_ran ln sz 1 a i (nI nn) hl hla
              rw [am_has hz24 (q.2.1 hl)]
              by_cases hi : 0 ≤ i.toInt ∧ 0 ≤ (nI nn).toInt ∧ i.toInt + (nI nn).toInt ≤ (sz 1 : Int)
              · rw [if_neg (fun z => z (br.mpr hi))] at h
                refine am_nt (am_bp hi) ?_
                obtain ⟨ii, hii, rfl⟩ := nI_of (am_n0 hi.1)
                rw [nI_toInt hii, nI_toInt (by omega)] at hi
                rw [nI_clamp hii] at h
                have hz : ii + nn ≤ sz 1 := by omega
                show G2 91 [some (.ref 0), some (.int (nI kind)), some (.int (nI f)), some (.int (nI 1)), some (.int a), some (.int (nI ii)), some (.int (nI nn)), some (.int what), some (.ref 28), some (.int 0), some (.int (0)), some (.int (I 1 6)), some (.int (I 1 6)), some (.int (0)), some (.int (0))] [] I L
                rw [hR.2.1]
                generalize hM : (fun m => g_lv G kind m f nn (fun k => it 1 (ii + k))) = M at h
                have fin : ∀ (I1 : am_I) (L1 : am_J) (sn kk : Int32), CR I1 L1 (G, K, hk, tn, tt, ln, sz, it) → G2 168 [some (.ref 0), some (.int (nI kind)), some (.int (nI f)), some (.int (nI 1)), some (.int a), some (.int (nI ii)), some (.int (nI nn)), some (.int what), some (.ref 28), some (.int 0), some (.int (nI (g_tr M (G 25) (4096)).1)), some (.int ((g_tr M (G 25) (4096)).2.1)), some (.int ((g_tr M (G 25) (4096)).2.2)), some (.int (sn)), some (.int (kk))] [] I1 L1 := by
                  intro I1 L1 sn kk hC1
                  have hle := g_tr_le M (G 25) 4096
                  refine hG2 [] 100 168 _ _ _ _ ?_
                  by_cases w0 : what = 0
                  · rw [if_pos w0] at h
                    exact am_nf w0 (h I1 L1 hC1)
                  · rw [if_neg w0] at h
                    refine am_nt w0 ?_
                    by_cases c0 : (g_tr M (G 25) 4096).1 = 0
                    · rw [if_pos c0] at h
                      exact am_nf (by rw [c0]; rfl) (h I1 L1 hC1)
                    · rw [if_neg c0] at h
                      refine am_nt (nI_ne0 (by omega) (by omega)) ?_
                      by_cases w1 : what = 1
                      · rw [if_pos w1] at h
                        exact am_nf w1 (h I1 L1 hC1)
                      · rw [if_neg w1] at h
                        exact am_nt w1 (h I1 L1 hC1)
                have loop : ∀ d u k (I1 : am_I) (L1 : am_J), 64 - k = d → k ≤ 64 → CR I1 L1 (G, K, hk, tn, tt, ln, sz, it) → (∀ b, u.testBit b = true → (G 25).testBit b = true) → k ≤ g_cnt (fun v => decide (g_dif v (G 25) = 0)) u → G2 91 [some (.ref 0), some (.int (nI kind)), some (.int (nI f)), some (.int (nI 1)), some (.int a), some (.int (nI ii)), some (.int (nI nn)), some (.int what), some (.ref 28), some (.int 0), some (.int (nI (g_tr M (G 25) (u)).1)), some (.int ((g_tr M (G 25) (u)).2.1)), some (.int ((g_tr M (G 25) (u)).2.2)), some (.int (nI u)), some (.int (nI k))] [] I1 L1 := by
                  intro d
                  induction d with
                  | zero =>
                    intro u k I1 L1 hd hk64 hC1 hu hc
                    exfalso
                    have hud := am_sub_le hu
                    have h1 := g_cnt_mono (fun v => decide (g_dif v (G 25) = 0)) (show u + 1 ≤ 2 ^ 12 by omega)
                    rw [am_many] at h1
                    have h2 : 2 ^ g_pc (G 25) 12 ≤ 2 ^ 6 := Nat.pow_le_pow_right (by omega) hV.1.2.2.2.2.2.1
                    have h3 := g_cnt_at (P := fun v => decide (g_dif v (G 25) = 0)) (u := u) (decide_eq_true (g_dif_0.mpr hu))
                    omega
                  | succ d ih =>
                    intro u k I1 L1 hd hk64 hC1 hu hc
                    have hud := am_sub_le hu
                    have aft : ∀ (I2 : am_I) (L2 : am_J), CR I2 L2 (G, K, hk, tn, tt, ln, sz, it) → G2 134 [some (.ref 0), some (.int (nI kind)), some (.int (nI f)), some (.int (nI 1)), some (.int a), some (.int (nI ii)), some (.int (nI nn)), some (.int what), some (.ref 28), some (.int 0), some (.int (nI (g_tr M (G 25) (u + 1)).1)), some (.int ((g_tr M (G 25) (u + 1)).2.1)), some (.int ((g_tr M (G 25) (u + 1)).2.2)), some (.int (nI u)), some (.int (nI k))] [] I2 L2 := by
                      intro I2 L2 hC2
                      have h6 : I2 1 6 = nI (G 25) := hC2.2.1.2.1
                      refine hG2 [(91, []), (168, [])] 100 134 _ _ _ _ ?_
                      show (¬ (nI u - I2 1 6) &&& I2 1 6 = 0 → G2 91 [some (.ref 0), some (.int (nI kind)), some (.int (nI f)), some (.int (nI 1)), some (.int a), some (.int (nI ii)), some (.int (nI nn)), some (.int what), some (.ref 28), some (.int 0), some (.int (nI (g_tr M (G 25) (u + 1)).1)), some (.int ((g_tr M (G 25) (u + 1)).2.1)), some (.int ((g_tr M (G 25) (u + 1)).2.2)), some (.int ((nI u - I2 1 6) &&& I2 1 6)), some (.int (nI k + 1))] [] I2 L2) ∧ ((nI u - I2 1 6) &&& I2 1 6 = 0 → G2 168 [some (.ref 0), some (.int (nI kind)), some (.int (nI f)), some (.int (nI 1)), some (.int a), some (.int (nI ii)), some (.int (nI nn)), some (.int what), some (.ref 28), some (.int 0), some (.int (nI (g_tr M (G 25) (u + 1)).1)), some (.int ((g_tr M (G 25) (u + 1)).2.1)), some (.int ((g_tr M (G 25) (u + 1)).2.2)), some (.int ((nI u - I2 1 6) &&& I2 1 6)), some (.int (nI k))] [] I2 L2)
                      rw [h6, am_nxt_I hu, nI_1]
                      by_cases e : u = G 25
                      · refine am_nf (by unfold am_nxt; rw [if_pos e]; rfl) ?_
                        have e2 := g_tr_skip M (G 25) (u + 1) (4095 - u) (fun v h1 h2 z => by have := am_sub_le (g_dif_0.mp z); omega)
                        rw [show u + 1 + (4095 - u) = 4096 by omega] at e2
                        rw [← e2]
                        exact fin I2 L2 _ _ hC2
                      · obtain ⟨n1, n2, n3⟩ := am_nxt_spec hu e
                        have n4 := am_sub_le n1
                        refine am_nt (nI_ne0 (by omega) (by omega)) ?_
                        have e2 := g_tr_skip M (G 25) (u + 1) (am_nxt (G 25) u - (u + 1)) (fun v h1 h2 z => by have := n3 v (g_dif_0.mp z) (by omega); omega)
                        rw [show u + 1 + (am_nxt (G 25) u - (u + 1)) = am_nxt (G 25) u by omega] at e2
                        rw [← e2]
                        refine ih _ (k + 1) I2 L2 (by omega) (by omega) hC2 n1 ?_
                        have h1 := g_cnt_mono (fun v => decide (g_dif v (G 25) = 0)) (show u + 1 ≤ am_nxt (G 25) u by omega)
                        have h3 := g_cnt_at (P := fun v => decide (g_dif v (G 25) = 0)) (u := u) (decide_eq_true (g_dif_0.mpr hu))
                        omega
                    refine hG2 [(134, [])] 100 91 _ _ _ _ (am_nf (am_lt (show k < 64 by omega) rfl) (And.intro (rfl) (Exists.intro ((G, K, hk, tn, tt, ln, sz, it)) (Exists.intro (kind) (Exists.intro (f) (Exists.intro (u) (Exists.intro (1) (Exists.intro (ii) (Exists.intro (nn) (And.intro (hk4) (And.intro (hf8) (And.intro (by omega) (And.intro (rfl) (And.intro (by omega) (And.intro (hC1) (And.intro (hl) (And.intro (hz) (And.intro (rfl) (And.intro (rfl) (And.intro (rfl) (And.intro (rfl) (And.intro (rfl) (fun I2 L2 hC2 => ?_)))))))))))))))))))))))
                    dsimp only
                    have eM : g_lv G kind u f nn (fun k => it 1 (ii + k)) = M u := by rw [← hM]
                    rw [eM]
                    by_cases hm : M u = true
                    · have e1 : g_tr M (G 25) (u + 1) = ((g_tr M (G 25) u).1 + 1, (g_tr M (G 25) u).2.1 &&& nI u, (g_tr M (G 25) u).2.2 &&& (nI u ^^^ (-1))) := by
                        simp only [g_tr]; rw [if_pos ⟨g_dif_0.mpr hu, hm⟩]
                      have ha := aft I2 L2 hC2
                      rw [e1] at ha
                      refine am_f (am_bp hm) ?_
                      show G2 134 [some (.ref 0), some (.int (nI kind)), some (.int (nI f)), some (.int (nI 1)), some (.int a), some (.int (nI ii)), some (.int (nI nn)), some (.int what), some (.ref 28), some (.int 0), some (.int (nI (g_tr M (G 25) u).1 + 1)), some (.int ((g_tr M (G 25) u).2.1 &&& nI u)), some (.int ((g_tr M (G 25) u).2.2 &&& (nI u ^^^ (-1)))), some (.int (nI u)), some (.int (nI k))] [] I2 L2
                      rw [nI_1]
                      exact ha
                    · have e1 : g_tr M (G 25) (u + 1) = g_tr M (G 25) u := by
                        simp only [g_tr]; rw [if_neg (fun z => hm z.2)]
                      have ha := aft I2 L2 hC2
                      rw [e1] at ha
                      exact am_t (am_bn hm) ha
                exact loop 64 0 0 I L (by omega) (by omega) hC (fun b hb => by simp at hb) (Nat.zero_le _)
              · rw [if_pos (fun z => hi (br.mp z))] at h
                have e : o_bars ln sz 1 a i (nI nn) = -13 := by rw [o_bars_0 hl hla, if_neg hi]
                rw [e] at h
                exact am_nf (am_bn hi) (h I L hC)
            · have e : o_bars ln sz 1 a i (nI nn) = -12 := by unfold o_bars; rw [if_neg hl, if_pos hla]
              rw [e, if_pos (by decide)] at h
              rw [if_neg (fun z => hla (q.1.symm.trans z))]
              exact am_f (by decide) (h I L hC)
        · have q : I 30 1 = ln 2 ∧ (¬ ln 2 = -1 → I 30 2 = nI (sz 2)) ∧ ∀ j, j < 24 → L 31 j = it 2 j := hSh 2 (by omega)
          have hz24 := (hV.2.2.2.2 2 (by omega)).2
          have h25 : G 25 < 4096 := hW.2.2.2.1
          refine hG2 [(91, [])] 100 0 _ _ _ _ (am_f (am_bp hP) (am_nt (am_bp hw) (And.intro (am_vin (N := 4) (n := 2) (by omega) rfl) (And.intro rfl (And.intro (by decide) (am_alS (s := 2) (o := 30) (by omega) rfl (And.intro (Or.inr (Or.inr (Or.inl rfl))) ?_)))))))
          by_cases hl : ln 2 = -1
          · have e : o_bars ln sz 2 a i (nI nn) = -11 := by unfold o_bars; rw [if_pos hl]
            rw [e, if_pos (by decide)] at h
            rw [if_pos (q.1.trans hl)]
            exact am_f (by decide) (h I L hC)
          · rw [if_neg (fun z => hl (q.1.symm.trans z))]
            by_cases hla : ln 2 = a
            · rw [if_pos (q.1.trans hla)]
              refine am_t rfl (And.intro (Or.inr (Or.inr (Or.inl rfl))) ?_)
              have br := @o_bars_ran ln sz 2 a i (nI nn) hl hla
              rw [am_has hz24 (q.2.1 hl)]
              by_cases hi : 0 ≤ i.toInt ∧ 0 ≤ (nI nn).toInt ∧ i.toInt + (nI nn).toInt ≤ (sz 2 : Int)
              · rw [if_neg (fun z => z (br.mpr hi))] at h
                refine am_nt (am_bp hi) ?_
                obtain ⟨ii, hii, rfl⟩ := nI_of (am_n0 hi.1)
                rw [nI_toInt hii, nI_toInt (by omega)] at hi
                rw [nI_clamp hii] at h
                have hz : ii + nn ≤ sz 2 := by omega
                show G2 91 [some (.ref 0), some (.int (nI kind)), some (.int (nI f)), some (.int (nI 2)), some (.int a), some (.int (nI ii)), some (.int (nI nn)), some (.int what), some (.ref 30), some (.int 0), some (.int (0)), some (.int (I 1 6)), some (.int (I 1 6)), some (.int (0)), some (.int (0))] [] I L
                rw [hR.2.1]
                generalize hM : (fun m => g_lv G kind m f nn (fun k => it 2 (ii + k))) = M at h
                have fin : ∀ (I1 : am_I) (L1 : am_J) (sn kk : Int32), CR I1 L1 (G, K, hk, tn, tt, ln, sz, it) → G2 168 [some (.ref 0), some (.int (nI kind)), some (.int (nI f)), some (.int (nI 2)), some (.int a), some (.int (nI ii)), some (.int (nI nn)), some (.int what), some (.ref 30), some (.int 0), some (.int (nI (g_tr M (G 25) (4096)).1)), some (.int ((g_tr M (G 25) (4096)).2.1)), some (.int ((g_tr M (G 25) (4096)).2.2)), some (.int (sn)), some (.int (kk))] [] I1 L1 := by
                  intro I1 L1 sn kk hC1
                  have hle := g_tr_le M (G 25) 4096
                  refine hG2 [] 100 168 _ _ _ _ ?_
                  by_cases w0 : what = 0
                  · rw [if_pos w0] at h
                    exact am_nf w0 (h I1 L1 hC1)
                  · rw [if_neg w0] at h
                    refine am_nt w0 ?_
                    by_cases c0 : (g_tr M (G 25) 4096).1 = 0
                    · rw [if_pos c0] at h
                      exact am_nf (by rw [c0]; rfl) (h I1 L1 hC1)
                    · rw [if_neg c0] at h
                      refine am_nt (nI_ne0 (by omega) (by omega)) ?_
                      by_cases w1 : what = 1
                      · rw [if_pos w1] at h
                        exact am_nf w1 (h I1 L1 hC1)
                      · rw [if_neg w1] at h
                        exact am_nt w1 (h I1 L1 hC1)
                have loop : ∀ d u k (I1 : am_I) (L1 : am_J), 64 - k = d → k ≤ 64 → CR I1 L1 (G, K, hk, tn, tt, ln, sz, it) → (∀ b, u.testBit b = true → (G 25).testBit b = true) → k ≤ g_cnt (fun v => decide (g_dif v (G 25) = 0)) u → G2 91 [some (.ref 0), some (.int (nI kind)), some (.int (nI f)), some (.int (nI 2)), some (.int a), some (.int (nI ii)), some (.int (nI nn)), some (.int what), some (.ref 30), some (.int 0), some (.int (nI (g_tr M (G 25) (u)).1)), some (.int ((g_tr M (G 25) (u)).2.1)), some (.int ((g_tr M (G 25) (u)).2.2)), some (.int (nI u)), some (.int (nI k))] [] I1 L1 := by
                  intro d
                  induction d with
                  | zero =>
                    intro u k I1 L1 hd hk64 hC1 hu hc
                    exfalso
                    have hud := am_sub_le hu
                    have h1 := g_cnt_mono (fun v => decide (g_dif v (G 25) = 0)) (show u + 1 ≤ 2 ^ 12 by omega)
                    rw [am_many] at h1
                    have h2 : 2 ^ g_pc (G 25) 12 ≤ 2 ^ 6 := Nat.pow_le_pow_right (by omega) hV.1.2.2.2.2.2.1
                    have h3 := g_cnt_at (P := fun v => decide (g_dif v (G 25) = 0)) (u := u) (decide_eq_true (g_dif_0.mpr hu))
                    omega
                  | succ d ih =>
                    intro u k I1 L1 hd hk64 hC1 hu hc
                    have hud := am_sub_le hu
                    have aft : ∀ (I2 : am_I) (L2 : am_J), CR I2 L2 (G, K, hk, tn, tt, ln, sz, it) → G2 134 [some (.ref 0), some (.int (nI kind)), some (.int (nI f)), some (.int (nI 2)), some (.int a), some (.int (nI ii)), some (.int (nI nn)), some (.int what), some (.ref 30), some (.int 0), some (.int (nI (g_tr M (G 25) (u + 1)).1)), some (.int ((g_tr M (G 25) (u + 1)).2.1)), some (.int ((g_tr M (G 25) (u + 1)).2.2)), some (.int (nI u)), some (.int (nI k))] [] I2 L2 := by
                      intro I2 L2 hC2
                      have h6 : I2 1 6 = nI (G 25) := hC2.2.1.2.1
                      refine hG2 [(91, []), (168, [])] 100 134 _ _ _ _ ?_
                      show (¬ (nI u - I2 1 6) &&& I2 1 6 = 0 → G2 91 [some (.ref 0), some (.int (nI kind)), some (.int (nI f)), some (.int (nI 2)), some (.int a), some (.int (nI ii)), some (.int (nI nn)), some (.int what), some (.ref 30), some (.int 0), some (.int (nI (g_tr M (G 25) (u + 1)).1)), some (.int ((g_tr M (G 25) (u + 1)).2.1)), some (.int ((g_tr M (G 25) (u + 1)).2.2)), some (.int ((nI u - I2 1 6) &&& I2 1 6)), some (.int (nI k + 1))] [] I2 L2) ∧ ((nI u - I2 1 6) &&& I2 1 6 = 0 → G2 168 [some (.ref 0), some (.int (nI kind)), some (.int (nI f)), some (.int (nI 2)), some (.int a), some (.int (nI ii)), some (.int (nI nn)), some (.int what), some (.ref 30), some (.int 0), some (.int (nI (g_tr M (G 25) (u + 1)).1)), some (.int ((g_tr M (G 25) (u + 1)).2.1)), some (.int ((g_tr M (G 25) (u + 1)).2.2)), some (.int ((nI u - I2 1 6) &&& I2 1 6)), some (.int (nI k))] [] I2 L2)
                      rw [h6, am_nxt_I hu, nI_1]
                      by_cases e : u = G 25
                      · refine am_nf (by unfold am_nxt; rw [if_pos e]; rfl) ?_
                        have e2 := g_tr_skip M (G 25) (u + 1) (4095 - u) (fun v h1 h2 z => by have := am_sub_le (g_dif_0.mp z); omega)
                        rw [show u + 1 + (4095 - u) = 4096 by omega] at e2
                        rw [← e2]
                        exact fin I2 L2 _ _ hC2
                      · obtain ⟨n1, n2, n3⟩ := am_nxt_spec hu e
                        have n4 := am_sub_le n1
                        refine am_nt (nI_ne0 (by omega) (by omega)) ?_
                        have e2 := g_tr_skip M (G 25) (u + 1) (am_nxt (G 25) u - (u + 1)) (fun v h1 h2 z => by have := n3 v (g_dif_0.mp z) (by omega); omega)
                        rw [show u + 1 + (am_nxt (G 25) u - (u + 1)) = am_nxt (G 25) u by omega] at e2
                        rw [← e2]
                        refine ih _ (k + 1) I2 L2 (by omega) (by omega) hC2 n1 ?_
                        have h1 := g_cnt_mono (fun v => decide (g_dif v (G 25) = 0)) (show u + 1 ≤ am_nxt (G 25) u by omega)
                        have h3 := g_cnt_at (P := fun v => decide (g_dif v (G 25) = 0)) (u := u) (decide_eq_true (g_dif_0.mpr hu))
                        omega
                    refine hG2 [(134, [])] 100 91 _ _ _ _ (am_nf (am_lt (show k < 64 by omega) rfl) (And.intro (rfl) (Exists.intro ((G, K, hk, tn, tt, ln, sz, it)) (Exists.intro (kind) (Exists.intro (f) (Exists.intro (u) (Exists.intro (2) (Exists.intro (ii) (Exists.intro (nn) (And.intro (hk4) (And.intro (hf8) (And.intro (by omega) (And.intro (rfl) (And.intro (by omega) (And.intro (hC1) (And.intro (hl) (And.intro (hz) (And.intro (rfl) (And.intro (rfl) (And.intro (rfl) (And.intro (rfl) (And.intro (rfl) (fun I2 L2 hC2 => ?_)))))))))))))))))))))))
                    dsimp only
                    have eM : g_lv G kind u f nn (fun k => it 2 (ii + k)) = M u := by rw [← hM]
                    rw [eM]
                    by_cases hm : M u = true
                    · have e1 : g_tr M (G 25) (u + 1) = ((g_tr M (G 25) u).1 + 1, (g_tr M (G 25) u).2.1 &&& nI u, (g_tr M (G 25) u).2.2 &&& (nI u ^^^ (-1))) := by
                        simp only [g_tr]; rw [if_pos ⟨g_dif_0.mpr hu, hm⟩]
                      have ha := aft I2 L2 hC2
                      rw [e1] at ha
                      refine am_f (am_bp hm) ?_
                      show G2 134 [some (.ref 0), some (.int (nI kind)), some (.int (nI f)), some (.int (nI 2)), some (.int a), some (.int (nI ii)), some (.int (nI nn)), some (.int what), some (.ref 30), some (.int 0), some (.int (nI (g_tr M (G 25) u).1 + 1)), some (.int ((g_tr M (G 25) u).2.1 &&& nI u)), some (.int ((g_tr M (G 25) u).2.2 &&& (nI u ^^^ (-1)))), some (.int (nI u)), some (.int (nI k))] [] I2 L2
                      rw [nI_1]
                      exact ha
                    · have e1 : g_tr M (G 25) (u + 1) = g_tr M (G 25) u := by
                        simp only [g_tr]; rw [if_neg (fun z => hm z.2)]
                      have ha := aft I2 L2 hC2
                      rw [e1] at ha
                      exact am_t (am_bn hm) ha
                exact loop 64 0 0 I L (by omega) (by omega) hC (fun b hb => by simp at hb) (Nat.zero_le _)
              · rw [if_pos (fun z => hi (br.mp z))] at h
                have e : o_bars ln sz 2 a i (nI nn) = -13 := by rw [o_bars_0 hl hla, if_neg hi]
                rw [e] at h
                exact am_nf (am_bn hi) (h I L hC)
            · have e : o_bars ln sz 2 a i (nI nn) = -12 := by unfold o_bars; rw [if_neg hl, if_pos hla]
              rw [e, if_pos (by decide)] at h
              rw [if_neg (fun z => hla (q.1.symm.trans z))]
              exact am_f (by decide) (h I L hC)
        · have q : I 32 1 = ln 3 ∧ (¬ ln 3 = -1 → I 32 2 = nI (sz 3)) ∧ ∀ j, j < 24 → L 33 j = it 3 j := hSh 3 (by omega)
          have hz24 := (hV.2.2.2.2 3 (by omega)).2
          have h25 : G 25 < 4096 := hW.2.2.2.1
          refine hG2 [(91, [])] 100 0 _ _ _ _ (am_f (am_bp hP) (am_nt (am_bp hw) (And.intro (am_vin (N := 4) (n := 3) (by omega) rfl) (And.intro rfl (And.intro (by decide) (am_alS (s := 3) (o := 32) (by omega) rfl (And.intro (Or.inr (Or.inr (Or.inr rfl))) ?_)))))))
          by_cases hl : ln 3 = -1
          · have e : o_bars ln sz 3 a i (nI nn) = -11 := by unfold o_bars; rw [if_pos hl]
            rw [e, if_pos (by decide)] at h
            rw [if_pos (q.1.trans hl)]
            exact am_f (by decide) (h I L hC)
          · rw [if_neg (fun z => hl (q.1.symm.trans z))]
            by_cases hla : ln 3 = a
            · rw [if_pos (q.1.trans hla)]
              refine am_t rfl (And.intro (Or.inr (Or.inr (Or.inr rfl))) ?_)
              have br := @o_bars_ran ln sz 3 a i (nI nn) hl hla
              rw [am_has hz24 (q.2.1 hl)]
              by_cases hi : 0 ≤ i.toInt ∧ 0 ≤ (nI nn).toInt ∧ i.toInt + (nI nn).toInt ≤ (sz 3 : Int)
              · rw [if_neg (fun z => z (br.mpr hi))] at h
                refine am_nt (am_bp hi) ?_
                obtain ⟨ii, hii, rfl⟩ := nI_of (am_n0 hi.1)
                rw [nI_toInt hii, nI_toInt (by omega)] at hi
                rw [nI_clamp hii] at h
                have hz : ii + nn ≤ sz 3 := by omega
                show G2 91 [some (.ref 0), some (.int (nI kind)), some (.int (nI f)), some (.int (nI 3)), some (.int a), some (.int (nI ii)), some (.int (nI nn)), some (.int what), some (.ref 32), some (.int 0), some (.int (0)), some (.int (I 1 6)), some (.int (I 1 6)), some (.int (0)), some (.int (0))] [] I L
                rw [hR.2.1]
                generalize hM : (fun m => g_lv G kind m f nn (fun k => it 3 (ii + k))) = M at h
                have fin : ∀ (I1 : am_I) (L1 : am_J) (sn kk : Int32), CR I1 L1 (G, K, hk, tn, tt, ln, sz, it) → G2 168 [some (.ref 0), some (.int (nI kind)), some (.int (nI f)), some (.int (nI 3)), some (.int a), some (.int (nI ii)), some (.int (nI nn)), some (.int what), some (.ref 32), some (.int 0), some (.int (nI (g_tr M (G 25) (4096)).1)), some (.int ((g_tr M (G 25) (4096)).2.1)), some (.int ((g_tr M (G 25) (4096)).2.2)), some (.int (sn)), some (.int (kk))] [] I1 L1 := by
                  intro I1 L1 sn kk hC1
                  have hle := g_tr_le M (G 25) 4096
                  refine hG2 [] 100 168 _ _ _ _ ?_
                  by_cases w0 : what = 0
                  · rw [if_pos w0] at h
                    exact am_nf w0 (h I1 L1 hC1)
                  · rw [if_neg w0] at h
                    refine am_nt w0 ?_
                    by_cases c0 : (g_tr M (G 25) 4096).1 = 0
                    · rw [if_pos c0] at h
                      exact am_nf (by rw [c0]; rfl) (h I1 L1 hC1)
                    · rw [if_neg c0] at h
                      refine am_nt (nI_ne0 (by omega) (by omega)) ?_
                      by_cases w1 : what = 1
                      · rw [if_pos w1] at h
                        exact am_nf w1 (h I1 L1 hC1)
                      · rw [if_neg w1] at h
                        exact am_nt w1 (h I1 L1 hC1)
                have loop : ∀ d u k (I1 : am_I) (L1 : am_J), 64 - k = d → k ≤ 64 → CR I1 L1 (G, K, hk, tn, tt, ln, sz, it) → (∀ b, u.testBit b = true → (G 25).testBit b = true) → k ≤ g_cnt (fun v => decide (g_dif v (G 25) = 0)) u → G2 91 [some (.ref 0), some (.int (nI kind)), some (.int (nI f)), some (.int (nI 3)), some (.int a), some (.int (nI ii)), some (.int (nI nn)), some (.int what), some (.ref 32), some (.int 0), some (.int (nI (g_tr M (G 25) (u)).1)), some (.int ((g_tr M (G 25) (u)).2.1)), some (.int ((g_tr M (G 25) (u)).2.2)), some (.int (nI u)), some (.int (nI k))] [] I1 L1 := by
                  intro d
                  induction d with
                  | zero =>
                    intro u k I1 L1 hd hk64 hC1 hu hc
                    exfalso
                    have hud := am_sub_le hu
                    have h1 := g_cnt_mono (fun v => decide (g_dif v (G 25) = 0)) (show u + 1 ≤ 2 ^ 12 by omega)
                    rw [am_many] at h1
                    have h2 : 2 ^ g_pc (G 25) 12 ≤ 2 ^ 6 := Nat.pow_le_pow_right (by omega) hV.1.2.2.2.2.2.1
                    have h3 := g_cnt_at (P := fun v => decide (g_dif v (G 25) = 0)) (u := u) (decide_eq_true (g_dif_0.mpr hu))
                    omega
                  | succ d ih =>
                    intro u k I1 L1 hd hk64 hC1 hu hc
                    have hud := am_sub_le hu
                    have aft : ∀ (I2 : am_I) (L2 : am_J), CR I2 L2 (G, K, hk, tn, tt, ln, sz, it) → G2 134 [some (.ref 0), some (.int (nI kind)), some (.int (nI f)), some (.int (nI 3)), some (.int a), some (.int (nI ii)), some (.int (nI nn)), some (.int what), some (.ref 32), some (.int 0), some (.int (nI (g_tr M (G 25) (u + 1)).1)), some (.int ((g_tr M (G 25) (u + 1)).2.1)), some (.int ((g_tr M (G 25) (u + 1)).2.2)), some (.int (nI u)), some (.int (nI k))] [] I2 L2 := by
                      intro I2 L2 hC2
                      have h6 : I2 1 6 = nI (G 25) := hC2.2.1.2.1
                      refine hG2 [(91, []), (168, [])] 100 134 _ _ _ _ ?_
                      show (¬ (nI u - I2 1 6) &&& I2 1 6 = 0 → G2 91 [some (.ref 0), some (.int (nI kind)), some (.int (nI f)), some (.int (nI 3)), some (.int a), some (.int (nI ii)), some (.int (nI nn)), some (.int what), some (.ref 32), some (.int 0), some (.int (nI (g_tr M (G 25) (u + 1)).1)), some (.int ((g_tr M (G 25) (u + 1)).2.1)), some (.int ((g_tr M (G 25) (u + 1)).2.2)), some (.int ((nI u - I2 1 6) &&& I2 1 6)), some (.int (nI k + 1))] [] I2 L2) ∧ ((nI u - I2 1 6) &&& I2 1 6 = 0 → G2 168 [some (.ref 0), some (.int (nI kind)), some (.int (nI f)), some (.int (nI 3)), some (.int a), some (.int (nI ii)), some (.int (nI nn)), some (.int what), some (.ref 32), some (.int 0), some (.int (nI (g_tr M (G 25) (u + 1)).1)), some (.int ((g_tr M (G 25) (u + 1)).2.1)), some (.int ((g_tr M (G 25) (u + 1)).2.2)), some (.int ((nI u - I2 1 6) &&& I2 1 6)), some (.int (nI k))] [] I2 L2)
                      rw [h6, am_nxt_I hu, nI_1]
                      by_cases e : u = G 25
                      · refine am_nf (by unfold am_nxt; rw [if_pos e]; rfl) ?_
                        have e2 := g_tr_skip M (G 25) (u + 1) (4095 - u) (fun v h1 h2 z => by have := am_sub_le (g_dif_0.mp z); omega)
                        rw [show u + 1 + (4095 - u) = 4096 by omega] at e2
                        rw [← e2]
                        exact fin I2 L2 _ _ hC2
                      · obtain ⟨n1, n2, n3⟩ := am_nxt_spec hu e
                        have n4 := am_sub_le n1
                        refine am_nt (nI_ne0 (by omega) (by omega)) ?_
                        have e2 := g_tr_skip M (G 25) (u + 1) (am_nxt (G 25) u - (u + 1)) (fun v h1 h2 z => by have := n3 v (g_dif_0.mp z) (by omega); omega)
                        rw [show u + 1 + (am_nxt (G 25) u - (u + 1)) = am_nxt (G 25) u by omega] at e2
                        rw [← e2]
                        refine ih _ (k + 1) I2 L2 (by omega) (by omega) hC2 n1 ?_
                        have h1 := g_cnt_mono (fun v => decide (g_dif v (G 25) = 0)) (show u + 1 ≤ am_nxt (G 25) u by omega)
                        have h3 := g_cnt_at (P := fun v => decide (g_dif v (G 25) = 0)) (u := u) (decide_eq_true (g_dif_0.mpr hu))
                        omega
                    refine hG2 [(134, [])] 100 91 _ _ _ _ (am_nf (am_lt (show k < 64 by omega) rfl) (And.intro (rfl) (Exists.intro ((G, K, hk, tn, tt, ln, sz, it)) (Exists.intro (kind) (Exists.intro (f) (Exists.intro (u) (Exists.intro (3) (Exists.intro (ii) (Exists.intro (nn) (And.intro (hk4) (And.intro (hf8) (And.intro (by omega) (And.intro (rfl) (And.intro (by omega) (And.intro (hC1) (And.intro (hl) (And.intro (hz) (And.intro (rfl) (And.intro (rfl) (And.intro (rfl) (And.intro (rfl) (And.intro (rfl) (fun I2 L2 hC2 => ?_)))))))))))))))))))))))
                    dsimp only
                    have eM : g_lv G kind u f nn (fun k => it 3 (ii + k)) = M u := by rw [← hM]
                    rw [eM]
                    by_cases hm : M u = true
                    · have e1 : g_tr M (G 25) (u + 1) = ((g_tr M (G 25) u).1 + 1, (g_tr M (G 25) u).2.1 &&& nI u, (g_tr M (G 25) u).2.2 &&& (nI u ^^^ (-1))) := by
                        simp only [g_tr]; rw [if_pos ⟨g_dif_0.mpr hu, hm⟩]
                      have ha := aft I2 L2 hC2
                      rw [e1] at ha
                      refine am_f (am_bp hm) ?_
                      show G2 134 [some (.ref 0), some (.int (nI kind)), some (.int (nI f)), some (.int (nI 3)), some (.int a), some (.int (nI ii)), some (.int (nI nn)), some (.int what), some (.ref 32), some (.int 0), some (.int (nI (g_tr M (G 25) u).1 + 1)), some (.int ((g_tr M (G 25) u).2.1 &&& nI u)), some (.int ((g_tr M (G 25) u).2.2 &&& (nI u ^^^ (-1)))), some (.int (nI u)), some (.int (nI k))] [] I2 L2
                      rw [nI_1]
                      exact ha
                    · have e1 : g_tr M (G 25) (u + 1) = g_tr M (G 25) u := by
                        simp only [g_tr]; rw [if_neg (fun z => hm z.2)]
                      have ha := aft I2 L2 hC2
                      rw [e1] at ha
                      exact am_t (am_bn hm) ha
                exact loop 64 0 0 I L (by omega) (by omega) hC (fun b hb => by simp at hb) (Nat.zero_le _)
              · rw [if_pos (fun z => hi (br.mp z))] at h
                have e : o_bars ln sz 3 a i (nI nn) = -13 := by rw [o_bars_0 hl hla, if_neg hi]
                rw [e] at h
                exact am_nf (am_bn hi) (h I L hC)
            · have e : o_bars ln sz 3 a i (nI nn) = -12 := by unfold o_bars; rw [if_neg hl, if_pos hla]
              rw [e, if_pos (by decide)] at h
              rw [if_neg (fun z => hla (q.1.symm.trans z))]
              exact am_f (by decide) (h I L hC)
      · rw [if_pos (Or.inr hw)] at h
        exact hG2 [] 100 0 _ _ _ _ (am_f (am_bp hP) (am_nf (am_bn hw) (h I L hC)))
    · rw [if_pos (Or.inl hP)] at h
      exact hG2 [] 100 0 _ _ _ _ (am_t (am_bn hP) (h I L hC))
  · exact h.elim
