/-! THE REFERENCE: which snows may have been -/
theorem am_m1 (x : Int32) : x &&& (-1) = x := by
  apply b_ext
  intro i hi
  rw [b_and, b_m1 i hi, Bool.and_true]
def T_MD_track : am_Sp := fun vs I L post => match vs with
  | [.ref o, .int x, .int y, .int z, .int a, .int i, .int n, .int what] => o = 0 ∧ ∃ A c, MR I L A c ∧ c + 4096 ≤ 1073741824 ∧ ∀ (I2 : am_I) (L2 : am_J) (c2 : Nat), c2 ≤ c + 4096 → MR I2 L2 (o_track A x y z a i n what).2 c2 → post (some (.int (o_track A x y z a i n what).1)) I2 L2
  | _ => False
def sp_MD_track : Nat → am_Sp := fun i => match i with
  | 62 => T_MD_in
  | 66 => T_MD_isPlace
  | 158 => T_MD_layWays
  | 161 => T_MD_go
  | 165 => T_MD_isKind
  | 201 => T_MD_isSheet
  | 206 => T_MD_bars
  | _ => am_no
set_option maxRecDepth 100000 in
set_option maxHeartbeats 4000000 in
theorem ok_MD_track : am_Ok am_SM sp_MD_track false k_MD_track 15 T_MD_track := by
  intro vs I L post h
  unfold T_MD_track at h
  split at h
  · rename_i o x y z a i n what
    obtain ⟨rfl, A, c, hC, hc, h⟩ := h
    refine ⟨Nat.le_of_ble_eq_true rfl, fun G2 hG2 => ?_⟩
    obtain ⟨G, K, hk, tn, tt, ln, sz, it⟩ := A
    obtain ⟨hV, hM, hK, hk1, htn, htt, hMS, hSh⟩ := id hC
    have hW : WG G := hV.1
    have h12 := hW.1
    dsimp only [o_track] at h
    by_cases hx : 0 ≤ x ∧ x < 4
    · by_cases hy : 0 ≤ y ∧ y < 8
      · by_cases hz : 0 ≤ z ∧ z < 4
        · by_cases ha : 0 ≤ a ∧ a < 3
          · by_cases hn : 1 ≤ n ∧ n ≤ 24
            · by_cases hw : 0 ≤ what ∧ what < 3
              · rw [if_neg (by rintro (q | q); exact q ⟨hx, hy, hz, ha, hn⟩; exact q hw)] at h
                obtain ⟨kind, hk4, rfl⟩ := am_rng (n := 4) (by omega) hx.1 hx.2
                obtain ⟨f, hf8, rfl⟩ := am_rng (n := 8) (by omega) hy.1 hy.2
                obtain ⟨s, hs4, rfl⟩ := am_rng (n := 4) (by omega) hz.1 hz.2
                obtain ⟨nn, hn25, rfl⟩ := am_rng (n := 25) (by omega) (Int32.le_trans (by decide) hn.1) (Int32.lt_of_le_of_lt hn.2 (by decide))
                rw [nI_clamp (n := kind) (by omega), nI_clamp (n := f) (by omega), nI_clamp (n := s) (by omega), nI_clamp (n := nn) (by omega)] at h
                have hlx := hV.2.2.2.2 s hs4
                refine hG2 [(111, [1, 1, 1, 1, 1, 1, 1, 1, 1, 1, 1, 1, 1, 0, 0])] 100 0 _ _ _ _ (am_f (am_bp hx) (am_f (am_bp hy) (am_f (am_bp hz) (am_f (am_bp ((m_in (hi := 2) (hi1 := 3) rfl rfl).mpr ha)) (am_f (am_bp (m_in1.mpr hn)) (am_nt (am_bp ((m_in (hi := 2) (hi1 := 3) rfl rfl).mpr hw)) (And.intro rfl (And.intro hz ?_))))))))
                rw [m_bars hSh hs4 hlx a i (nI nn)]
                by_cases h0 : o_bars ln sz s a i (nI nn) = 0
                · rw [if_neg (fun q => q h0)] at h
                  have l1 : ¬ ln s = -1 := fun z => by
                    have e : o_bars ln sz s a i (nI nn) = -11 := by unfold o_bars; rw [if_pos z]
                    rw [e] at h0; exact absurd h0 (by decide)
                  have l2 : ln s = a := Classical.byContradiction (fun z => by
                    have e : o_bars ln sz s a i (nI nn) = -12 := by unfold o_bars; rw [if_neg l1, if_pos z]
                    rw [e] at h0; exact absurd h0 (by decide))
                  have hr := (o_bars_ran l1 l2).mp h0
                  obtain ⟨ii, hii, rfl⟩ := nI_of (am_n0 hr.1)
                  rw [nI_toInt hii, nI_toInt (by omega)] at hr
                  rw [nI_clamp hii] at h
                  have h24 := hlx.2
                  rw [h0]
                  refine am_t rfl (And.intro (rfl) (Exists.intro (G) (And.intro (hW) (And.intro (hM) (fun I0 h7 ho => ?_)))))
                  have hC0 : MR I0 L (G, K, hk, tn, tt, ln, sz, it) c := MR_GF hC (fun a _ a7 _ _ _ _ _ => ho a a7) ⟨by rw [ho 0 (by omega)], by rw [ho 0 (by omega)]⟩ ⟨by rw [ho 0 (by omega)]; exact hMS.1, fun s hs => by rw [ho 10 (by omega)]; exact hMS.2 s hs⟩
                  have e1 : I0 1 = I 1 := ho 1 (by omega)
                  have hX : JX G kind (G 26) f := JX_of hW hk4 hf8
                  have hML : ∀ m, (fun m => g_lv G kind m f nn (fun k => it s (ii + k))) m = g_lv G kind m f nn (fun k => it s (ii + k)) := fun m => rfl
                  generalize (fun m => g_lv G kind m f nn (fun k => it s (ii + k))) = M at h hML
                  have fin : ∀ (I1 : am_I) (c1 : Nat), c1 ≤ c + 4096 → MR I1 L (G, K, hk, tn, tt, ln, sz, it) c1 → G2 277 [some (.ref 0), some (.int (nI kind)), some (.int (nI f)), some (.int (nI s)), some (.int a), some (.int (nI ii)), some (.int (nI nn)), some (.int what), some (.int 0), some (.int (nI (g_tr M (G 25) (4096)).1)), some (.int ((g_tr M (G 25) (4096)).2.1)), some (.int ((g_tr M (G 25) (4096)).2.2)), some (.int (nI 4096)), none, none] [] I1 L := by
                    intro I1 c1 hc1 hC1
                    have hle := g_tr_le M (G 25) 4096
                    refine hG2 [] 100 277 _ _ _ _ ?_
                    by_cases w0 : what = 0
                    · rw [if_pos w0] at h
                      exact am_nf w0 (h I1 L c1 hc1 hC1)
                    · rw [if_neg w0] at h
                      refine am_nt w0 ?_
                      by_cases c0 : (g_tr M (G 25) 4096).1 = 0
                      · rw [if_pos c0] at h
                        exact am_nf (by rw [c0]; rfl) (h I1 L c1 hc1 hC1)
                      · rw [if_neg c0] at h
                        refine am_nt (nI_ne0 (by omega) (by omega)) ?_
                        by_cases w1 : what = 1
                        · rw [if_pos w1] at h
                          exact am_nf w1 (h I1 L c1 hc1 hC1)
                        · rw [if_neg w1] at h
                          exact am_nt w1 (h I1 L c1 hc1 hC1)
                  clear h
                  have loop : ∀ d u c1 (I1 : am_I), 4096 - u = d → u ≤ 4096 → c1 ≤ c + u → MR I1 L (G, K, hk, tn, tt, ln, sz, it) c1 → LW I1 G → G2 111 [some (.ref 0), some (.int (nI kind)), some (.int (nI f)), some (.int (nI s)), some (.int a), some (.int (nI ii)), some (.int (nI nn)), some (.int what), some (.int 0), some (.int (nI (g_tr M (G 25) (u)).1)), some (.int ((g_tr M (G 25) (u)).2.1)), some (.int ((g_tr M (G 25) (u)).2.2)), some (.int (nI u)), none, none] [] I1 L := by
                    intro d
                    induction d with
                    | zero =>
                      intro u c1 I1 hd hu hc1 hC1 hLW
                      have e : u = 4096 := by omega
                      subst e
                      refine hG2 [(277, [])] 100 111 _ _ _ _ (am_nt (am_nlt (Nat.le_refl 4096) rfl) ?_)
                      exact fin I1 c1 hc1 hC1
                    | succ d ih =>
                      intro u c1 I1 hd hu hc1 hC1 hLW
                      obtain ⟨hV1, hM1, hK1, hk11, htn1, htt1, hMS1, hSh1⟩ := id hC1
                      have w1 : ∀ i : Nat, i < 45 → I1 1 i = nI (G i) := fun i hi => RM_i hM1 i hi
                      have hdl : g_dif u (G 25) < 2 ^ 12 := g_dif_lt (n := 12) (show u < 2 ^ 12 by omega)
                      have next : ∀ (I3 : am_I) (c3 : Nat), c3 ≤ c + (u + 1) → MR I3 L (G, K, hk, tn, tt, ln, sz, it) c3 → LW I3 G → ∀ (c9 v10 v11 : Int32) (x13 x14 : Option Value), c9 = nI (g_tr M (G 25) (u + 1)).1 → v10 = (g_tr M (G 25) (u + 1)).2.1 → v11 = (g_tr M (G 25) (u + 1)).2.2 → G2 271 [some (.ref 0), some (.int (nI kind)), some (.int (nI f)), some (.int (nI s)), some (.int a), some (.int (nI ii)), some (.int (nI nn)), some (.int what), some (.int 0), some (.int (c9)), some (.int (v10)), some (.int (v11)), some (.int (nI u)), x13, x14] [] I3 L := by
                        intro I3 c3 hc3 hC3 hL3 c9 v10 v11 x13 x14 e1 e2 e3
                        subst e1 e2 e3
                        refine hG2 [(111, [1, 1, 1, 1, 1, 1, 1, 1, 1, 1, 1, 1, 1, 0, 0])] 100 271 _ _ _ _ ?_
                        show G2 111 [some (.ref 0), some (.int (nI kind)), some (.int (nI f)), some (.int (nI s)), some (.int a), some (.int (nI ii)), some (.int (nI nn)), some (.int what), some (.int 0), some (.int (nI (g_tr M (G 25) (u + 1)).1)), some (.int ((g_tr M (G 25) (u + 1)).2.1)), some (.int ((g_tr M (G 25) (u + 1)).2.2)), some (.int (nI u + 1)), none, none] [] I3 L
                        rw [nI_1]
                        exact ih (u + 1) c3 I3 (by omega) (by omega) hc3 hC3 hL3
                      refine hG2 [(271, []), (168, [])] 100 111 _ _ _ _ (am_nf (am_lt (show u < 4096 by omega) rfl) (And.intro (am_vin (n := 25) (by decide) rfl) ?_))
                      show (¬ nI u &&& (I1 1 25 ^^^ (-1)) = 0 → _) ∧ (nI u &&& (I1 1 25 ^^^ (-1)) = 0 → _)
                      rw [w1 25 (by omega), g_dif_I]
                      by_cases h1 : g_dif u (G 25) = 0
                      · refine am_nf (by rw [h1]; rfl) (And.intro (am_vin (n := 26) (by decide) rfl) (And.intro (rfl) (Exists.intro (G) (Exists.intro (kind) (Exists.intro (f) (Exists.intro (u) (Exists.intro (G 26) (Exists.intro (c1) (And.intro (hX) (And.intro (hM1) (And.intro (rfl) (And.intro (rfl) (And.intro (rfl) (And.intro (w1 26 (by omega)) (And.intro (hLW) (And.intro (hMS1) (And.intro (by omega) (fun n I2 n1 n2 h15 h16 h17 h18 hst hms hgf => ?_))))))))))))))))))
                        have e := g_T_of hX n1 n2
                        subst e
                        have hT := (g_T_spec (snow := u) hX).1
                        have hC2 : MR I2 L (G, K, hk, tn, tt, ln, sz, it) (c1 + 1) := MR_GF hC1 (fun a a0 _ a8 a9 a10 _ _ => hgf.1 a a0 a8 a9 a10) ⟨hgf.2 1 (by omega) (by omega) (by omega) (by omega) (by omega), hgf.2 3 (by omega) (by omega) (by omega) (by omega) (by omega)⟩ hms
                        have hL2 : LW I2 G := fun a b ha hb => by rw [hgf.1 7 (by omega) (by omega) (by omega) (by omega)]; exact hLW a b ha hb
                        have nx := next I2 (c1 + 1) (by omega) hC2 hL2
                        have hMu := hML u
                        have out1 : M u = true → ∀ k : Int32, G2 222 [some (.ref 0), some (.int (nI kind)), some (.int (nI f)), some (.int (nI s)), some (.int a), some (.int (nI ii)), some (.int (nI nn)), some (.int what), some (.int 0), some (.int (nI (g_tr M (G 25) (u)).1)), some (.int ((g_tr M (G 25) (u)).2.1)), some (.int ((g_tr M (G 25) (u)).2.2)), some (.int (nI u)), some (.int (1)), some (.int (k))] [] I2 L := by
                          intro hm k
                          have eT : g_tr M (G 25) (u + 1) = ((g_tr M (G 25) u).1 + 1, (g_tr M (G 25) u).2.1 &&& nI u, (g_tr M (G 25) u).2.2 &&& (nI u ^^^ (-1))) := by
                            simp only [g_tr]; rw [if_pos ⟨h1, hm⟩]
                          refine hG2 [(271, [])] 100 222 _ _ _ _ (am_f (by decide) (am_f (by decide) (am_f (by decide) ?_)))
                          refine nx _ _ _ _ _ ?_ ?_ ?_
                          · rw [eT, nI_1]
                          · rw [eT]
                          · rw [eT]
                        have out0 : ¬ M u = true → ∀ k : Int32, G2 222 [some (.ref 0), some (.int (nI kind)), some (.int (nI f)), some (.int (nI s)), some (.int a), some (.int (nI ii)), some (.int (nI nn)), some (.int what), some (.int 0), some (.int (nI (g_tr M (G 25) (u)).1)), some (.int ((g_tr M (G 25) (u)).2.1)), some (.int ((g_tr M (G 25) (u)).2.2)), some (.int (nI u)), some (.int (0)), some (.int (k))] [] I2 L := by
                          intro hm k
                          have eT : g_tr M (G 25) (u + 1) = g_tr M (G 25) u := by
                            simp only [g_tr]; rw [if_neg (fun z => hm z.2)]
                          refine hG2 [(271, [])] 100 222 _ _ _ _ (am_t rfl (am_t rfl (am_t rfl ?_)))
                          refine nx _ _ _ _ _ ?_ ?_ ?_
                          · rw [eT]
                            show nI _ + nI 0 = _
                            rw [nI_add]; rfl
                          · rw [eT, am_m1]
                          · rw [eT, am_m1]
                        have no : ¬ M u = true → ∀ k, k ≤ nn → G2 168 [some (.ref 0), some (.int (nI kind)), some (.int (nI f)), some (.int (nI s)), some (.int a), some (.int (nI ii)), some (.int (nI nn)), some (.int what), some (.int 0), some (.int (nI (g_tr M (G 25) (u)).1)), some (.int ((g_tr M (G 25) (u)).2.1)), some (.int ((g_tr M (G 25) (u)).2.2)), some (.int (nI u)), some (.int (0)), some (.int (nI k))] [] I2 L := by
                          intro hm k hk2
                          by_cases e : k < nn
                          · exact hG2 [(222, [])] 100 168 _ _ _ _ (am_nf (nI_lt e (by omega)) (am_t rfl (out0 hm (nI k))))
                          · exact hG2 [(222, [])] 100 168 _ _ _ _ (am_nt (nI_nlt (by omega) (by omega)) (out0 hm (nI k)))
                        have yes : ∀ d k, nn - k = d → k ≤ nn → nn ≤ g_T G kind u (G 26) f → (∀ j, j < k → (nI (g_S G kind u (G 26) f (j + 1)).1).toInt64 = it s (ii + j)) → G2 168 [some (.ref 0), some (.int (nI kind)), some (.int (nI f)), some (.int (nI s)), some (.int a), some (.int (nI ii)), some (.int (nI nn)), some (.int what), some (.int 0), some (.int (nI (g_tr M (G 25) (u)).1)), some (.int ((g_tr M (G 25) (u)).2.1)), some (.int ((g_tr M (G 25) (u)).2.2)), some (.int (nI u)), some (.int (1)), some (.int (nI k))] [] I2 L := by
                          intro d
                          induction d with
                          | zero =>
                            intro k hd hk2 hTn hj
                            have e : k = nn := by omega
                            subst e
                            exact hG2 [(222, [])] 100 168 _ _ _ _ (am_nt (nI_nlt (Nat.le_refl k) (by omega)) (out1 (by rw [hMu]; exact g_lv_iff.mpr ⟨hTn, hj⟩) (nI k)))
                          | succ d ih2 =>
                            intro k hd hk2 hTn hj
                            obtain ⟨ix, iv⟩ := am_i24b hs4 (show ii + k < 24 by omega)
                            have e1 : nI k + (1 : Int32) = nI (k + 1) := nI_1 k
                            obtain ⟨q1, q2, q3⟩ := hC2.2.2.2.2.2.2.2 s hs4
                            refine hG2 [(168, [])] 100 168 _ _ _ _ (am_nf (nI_lt (by omega) (by omega)) (am_f (by decide) (And.intro (show vp_in (nI k + 1) 100 by rw [e1]; exact am_vin (by omega) rfl) (And.intro iv ?_))))
                            show (¬ lg_cmp (I2 9 (nI k + 1).toNatClampNeg).toInt64 (L 15 ((24 : Int32) * nI s + nI ii + nI k).toNatClampNeg) = 0 → G2 168 [some (.ref 0), some (.int (nI kind)), some (.int (nI f)), some (.int (nI s)), some (.int a), some (.int (nI ii)), some (.int (nI nn)), some (.int what), some (.int 0), some (.int (nI (g_tr M (G 25) (u)).1)), some (.int ((g_tr M (G 25) (u)).2.1)), some (.int ((g_tr M (G 25) (u)).2.2)), some (.int (nI u)), some (.int (0)), some (.int (nI k + 1))] [] I2 L) ∧ (lg_cmp (I2 9 (nI k + 1).toNatClampNeg).toInt64 (L 15 ((24 : Int32) * nI s + nI ii + nI k).toNatClampNeg) = 0 → G2 168 [some (.ref 0), some (.int (nI kind)), some (.int (nI f)), some (.int (nI s)), some (.int a), some (.int (nI ii)), some (.int (nI nn)), some (.int what), some (.int 0), some (.int (nI (g_tr M (G 25) (u)).1)), some (.int ((g_tr M (G 25) (u)).2.1)), some (.int ((g_tr M (G 25) (u)).2.2)), some (.int (nI u)), some (.int (1)), some (.int (nI k + 1))] [] I2 L)
                            rw [ix, e1, nI_clamp (by omega), hst (k + 1) (by omega) (by omega), show 24 * s + ii + k = 24 * s + (ii + k) by omega, q3 (ii + k) (by omega), am_cmp_eq]
                            by_cases e : (nI (g_S G kind u (G 26) f (k + 1)).1).toInt64 = it s (ii + k)
                            · refine am_nf e (ih2 (k + 1) (by omega) (by omega) hTn (fun j hj2 => ?_))
                              by_cases e2 : j = k
                              · subst e2; exact e
                              · exact hj j (by omega)
                            · refine am_nt e (no (fun z => ?_) (k + 1) (by omega))
                              rw [hMu] at z
                              exact e ((g_lv_iff.mp z).2 k (by omega))
                        by_cases hTn : g_T G kind u (G 26) f < nn
                        · refine am_t (show I2 0 15 < nI nn by rw [h15]; exact nI_lt hTn (by omega)) ?_
                          refine no (fun z => ?_) 0 (by omega)
                          rw [hMu] at z
                          have := (g_lv_iff.mp z).1
                          omega
                        · refine am_f (show ¬ I2 0 15 < nI nn by rw [h15]; exact nI_nlt (by omega) (by omega)) ?_
                          exact yes nn 0 (by omega) (by omega) (by omega) (fun j hj => by omega)
                      · have eT : g_tr M (G 25) (u + 1) = g_tr M (G 25) u := by
                          simp only [g_tr]; rw [if_neg (fun z => h1 z.1)]
                        refine am_nt (nI_ne0 (by omega) (by omega)) (next I1 c1 (by omega) hC1 hLW _ _ _ _ _ ?_ ?_ ?_)
                        · rw [eT]
                        · rw [eT]
                        · rw [eT]
                  refine And.intro (am_vin (n := 25) (by decide) rfl) (And.intro (am_vin (n := 25) (by decide) rfl) ?_)
                  show G2 111 [some (.ref 0), some (.int (nI kind)), some (.int (nI f)), some (.int (nI s)), some (.int a), some (.int (nI ii)), some (.int (nI nn)), some (.int what), some (.int 0), some (.int (nI 0)), some (.int (I0 1 25)), some (.int (I0 1 25)), some (.int (nI 0)), none, none] [] I0 L
                  rw [e1, RM_i hM 25 (by omega)]
                  exact loop 4096 0 c I0 (by omega) (by omega) (by omega) hC0 h7
                · rw [if_pos h0] at h
                  exact am_f h0 (h I L c (by omega) hC)
              · rw [if_pos (Or.inr hw)] at h
                exact hG2 [] 100 0 _ _ _ _ (am_f (am_bp hx) (am_f (am_bp hy) (am_f (am_bp hz) (am_f (am_bp ((m_in (hi := 2) (hi1 := 3) rfl rfl).mpr ha)) (am_f (am_bp (m_in1.mpr hn)) (am_nf (am_bn (fun q => hw ((m_in (hi := 2) (hi1 := 3) rfl rfl).mp q))) (h I L c (by omega) hC)))))))
            · rw [if_pos (Or.inl (fun q => hn q.2.2.2.2))] at h
              exact hG2 [] 100 0 _ _ _ _ (am_f (am_bp hx) (am_f (am_bp hy) (am_f (am_bp hz) (am_f (am_bp ((m_in (hi := 2) (hi1 := 3) rfl rfl).mpr ha)) (am_t (am_bn (fun q => hn (m_in1.mp q))) (h I L c (by omega) hC))))))
          · rw [if_pos (Or.inl (fun q => ha q.2.2.2.1))] at h
            exact hG2 [] 100 0 _ _ _ _ (am_f (am_bp hx) (am_f (am_bp hy) (am_f (am_bp hz) (am_t (am_bn (fun q => ha ((m_in (hi := 2) (hi1 := 3) rfl rfl).mp q))) (h I L c (by omega) hC)))))
        · rw [if_pos (Or.inl (fun q => hz q.2.2.1))] at h
          exact hG2 [] 100 0 _ _ _ _ (am_f (am_bp hx) (am_f (am_bp hy) (am_t (am_bn hz) (h I L c (by omega) hC))))
      · rw [if_pos (Or.inl (fun q => hy q.2.1))] at h
        exact hG2 [] 100 0 _ _ _ _ (am_f (am_bp hx) (am_t (am_bn hy) (h I L c (by omega) hC)))
    · rw [if_pos (Or.inl (fun q => hx q.1))] at h
      exact hG2 [] 100 0 _ _ _ _ (am_t (am_bn hx) (h I L c (by omega) hC))
  · exact h.elim
