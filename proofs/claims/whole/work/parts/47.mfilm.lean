/-! THE REFERENCE: a journey filmed -/
theorem m_in1 {x : Int32} : ((1 : Int64) ≤ x.toInt64 ∧ x.toInt64 ≤ 24) ↔ (1 ≤ x ∧ x ≤ 24) := by
  have h1 : (1 : Int64) = (1 : Int32).toInt64 := rfl
  have h2 : (24 : Int64) = (24 : Int32).toInt64 := rfl
  rw [h1, h2, fw_le, fw_le]
def T_MD_film : am_Sp := fun vs I L post => match vs with
  | [.ref o, .int x, .int y, .int z, .int a, .int i, .int n] => o = 0 ∧ ∃ A c, MR I L A c ∧ c + 4096 ≤ 1073741824 ∧ ∀ (I2 : am_I) (L2 : am_J) (c2 : Nat), c2 ≤ c + 4096 → MR I2 L2 (o_film A x y z a i n).2 c2 → post (some (.int (o_film A x y z a i n).1)) I2 L2
  | _ => False
def sp_MD_film : Nat → am_Sp := fun i => match i with
  | 62 => T_MD_in
  | 66 => T_MD_isPlace
  | 165 => T_MD_isKind
  | 170 => T_MD_goNow
  | 201 => T_MD_isSheet
  | 206 => T_MD_bars
  | _ => am_no
set_option maxRecDepth 100000 in
set_option maxHeartbeats 4000000 in
theorem ok_MD_film : am_Ok am_SM sp_MD_film false k_MD_film 10 T_MD_film := by
  intro vs I L post h
  unfold T_MD_film at h
  split at h
  · rename_i o x y z a i n
    obtain ⟨rfl, A, c, hC, hc, h⟩ := h
    refine ⟨Nat.le_of_ble_eq_true rfl, fun G2 hG2 => ?_⟩
    obtain ⟨G, K, hk, tn, tt, ln, sz, it⟩ := A
    obtain ⟨hV, hM, hK, hk1, htn, htt, hMS, hSh⟩ := id hC
    have hW : WG G := hV.1
    have h12 := hW.1
    dsimp only [o_film] at h
    by_cases hx : 0 ≤ x ∧ x < 4
    · by_cases hy : 0 ≤ y ∧ y < 8
      · by_cases hz : 0 ≤ z ∧ z < 4
        · by_cases ha : 0 ≤ a ∧ a < 3
          · by_cases hn : 1 ≤ n ∧ n ≤ 24
            · rw [if_neg (fun q => q ⟨hx, hy, hz, ha, hn⟩)] at h
              obtain ⟨kind, hk4, rfl⟩ := am_rng (n := 4) (by omega) hx.1 hx.2
              obtain ⟨f, hf8, rfl⟩ := am_rng (n := 8) (by omega) hy.1 hy.2
              obtain ⟨s, hs4, rfl⟩ := am_rng (n := 4) (by omega) hz.1 hz.2
              obtain ⟨nn, hn25, rfl⟩ := am_rng (n := 25) (by omega) (Int32.le_trans (by decide) hn.1) (Int32.lt_of_le_of_lt hn.2 (by decide))
              rw [nI_clamp (n := kind) (by omega), nI_clamp (n := f) (by omega), nI_clamp (n := s) (by omega), nI_clamp (n := nn) (by omega)] at h
              refine hG2 [(73, [])] 100 0 _ _ _ _ (am_f (am_bp hx) (am_f (am_bp hy) (am_f (am_bp hz) (am_f (am_bp ((m_in (hi := 2) (hi1 := 3) rfl rfl).mpr ha)) (am_nt (am_bp (m_in1.mpr hn)) (And.intro (rfl) (Exists.intro ((G, K, hk, tn, tt, ln, sz, it)) (Exists.intro (c) (Exists.intro (kind) (Exists.intro (f) (And.intro (hk4) (And.intro (hf8) (And.intro (hC) (And.intro (by omega) (And.intro (rfl) (And.intro (rfl) (fun I2 hj hC2 => ?_)))))))))))))))))
              obtain ⟨j15, j16, j17, j18, jst⟩ := hj
              dsimp only at j15 jst
              have hT := (g_T_spec (snow := G 44) (JX_of hW hk4 hf8)).1
              have hlx := hV.2.2.2.2 s hs4
              have hgS : ∀ k, (g_S G kind (G 44) (G 26) f k).1 < 8 := fun k => (g_S_lt (kind := kind) (snow := G 44) (stones := G 26) (f := f) hW (fun _ q => q) hf8 k).1
              have hmn : g_mn (g_T G kind (G 44) (G 26) f) nn ≤ nn ∧ g_mn (g_T G kind (G 44) (G 26) f) nn ≤ g_T G kind (G 44) (G 26) f := by unfold g_mn; split <;> omega
              have aft : ∀ m, g_mn (g_T G kind (G 44) (G 26) f) nn = m → G2 73 [some (.ref 0), some (.int (nI kind)), some (.int (nI f)), some (.int (nI s)), some (.int a), some (.int i), some (.int (nI nn)), none, none, none] [.int (nI m)] I2 L := by
                intro m hm
                rw [hm] at h hmn
                have hSh2 : SHm I2 L ln sz it := hC2.2.2.2.2.2.2.2
                refine hG2 [(99, [])] 100 73 _ _ _ _ (And.intro rfl (And.intro hz ?_))
                rw [m_bars hSh2 hs4 hlx a i (nI m)]
                by_cases h0 : o_bars ln sz s a i (nI m) = 0
                · rw [if_neg (fun q => q h0)] at h
                  have l1 : ¬ ln s = -1 := fun z => by
                    have e : o_bars ln sz s a i (nI m) = -11 := by unfold o_bars; rw [if_pos z]
                    rw [e] at h0; exact absurd h0 (by decide)
                  have l2 : ln s = a := Classical.byContradiction (fun z => by
                    have e : o_bars ln sz s a i (nI m) = -12 := by unfold o_bars; rw [if_neg l1, if_pos z]
                    rw [e] at h0; exact absurd h0 (by decide))
                  have hr := (o_bars_ran l1 l2).mp h0
                  obtain ⟨ii, hii, rfl⟩ := nI_of (am_n0 hr.1)
                  rw [nI_toInt hii, nI_toInt (by omega)] at hr
                  rw [nI_clamp hii] at h
                  have h24 := hlx.2
                  refine am_t h0 ?_
                  rw [h0]
                  have loop : ∀ d k (L1 : am_J), m - k = d → k ≤ m → MR I2 L1 (G, K, hk, tn, tt, ln, sz, o_upd it s (o_cpy (g_trk G kind f) (it s) 0 ii k)) (c + 1) → G2 99 [some (.ref 0), some (.int (nI kind)), some (.int (nI f)), some (.int (nI s)), some (.int a), some (.int (nI ii)), some (.int (nI nn)), some (.int (nI m)), some (.int 0), some (.int (nI k))] [] I2 L1 := by
                    intro d
                    induction d with
                    | zero =>
                      intro k L1 hd hk2 hC3
                      have e : k = m := by omega
                      subst e
                      exact hG2 [] 100 99 _ _ _ _ (am_nt (nI_nlt (Nat.le_refl k) (by omega)) (h I2 L1 (c + 1) (by omega) hC3))
                    | succ d ih =>
                      intro k L1 hd hk2 hC3
                      obtain ⟨ix, iv⟩ := am_i24b hs4 (show ii + k < 24 by omega)
                      have e1 : nI k + (1 : Int32) = nI (k + 1) := nI_1 k
                      refine hG2 [(99, [])] 100 99 _ _ _ _ (am_nf (nI_lt (by omega) (by omega)) (And.intro (show vp_in (nI k + 1) 100 by rw [e1]; exact am_vin (by omega) rfl) (And.intro iv ?_)))
                      show G2 99 [some (.ref 0), some (.int (nI kind)), some (.int (nI f)), some (.int (nI s)), some (.int a), some (.int (nI ii)), some (.int (nI nn)), some (.int (nI m)), some (.int 0), some (.int (nI k + 1))] [] I2 (am_uj L1 15 ((24 : Int32) * nI s + nI ii + nI k).toNatClampNeg (I2 9 (nI k + 1).toNatClampNeg).toInt64)
                      rw [ix, e1, nI_clamp (by omega), jst (k + 1) (by omega) (by omega)]
                      obtain ⟨q1, q2, q3⟩ := hC3.2.2.2.2.2.2.2 s hs4
                      refine ih (k + 1) _ (by omega) (by omega) (MR_sh (s := s) hC3 (fun q h1 h2 => rfl) (fun u hu => ⟨rfl, rfl⟩) (fun u j hu hne hj => am_uja (by omega)) hlx (fun u hu => ⟨rfl, rfl, by rw [o_upd_n hu, o_upd_n hu]⟩) q1 q2 (fun j hj => ?_))
                      rw [o_upd_e]
                      have q3 := q3 j hj
                      rw [o_upd_e] at q3
                      unfold o_cpy at q3 ⊢
                      by_cases e : j = ii + k
                      · subst e
                        rw [show 24 * s + ii + k = 24 * s + (ii + k) by omega, am_uj_e, if_pos ⟨by omega, by omega⟩, show 0 + (ii + k - ii) = k by omega]
                        rfl
                      · rw [am_uja (by omega), q3]
                        by_cases e2 : ii ≤ j ∧ j < ii + k
                        · rw [if_pos e2, if_pos ⟨e2.1, by omega⟩]
                        · rw [if_neg e2, if_neg (fun z => e2 ⟨z.1, by omega⟩)]
                  show G2 99 [some (.ref 0), some (.int (nI kind)), some (.int (nI f)), some (.int (nI s)), some (.int a), some (.int (nI ii)), some (.int (nI nn)), some (.int (nI m)), some (.int 0), some (.int (nI 0))] [] I2 L
                  refine loop m 0 L (by omega) (by omega) ?_
                  obtain ⟨q1, q2, q3⟩ := hSh2 s hs4
                  refine MR_sh (s := s) hC2 (fun q h1 h2 => rfl) (fun u hu => ⟨rfl, rfl⟩) (fun u j hu hne hj => rfl) hlx (fun u hu => ⟨rfl, rfl, o_upd_n hu⟩) q1 q2 (fun j hj => ?_)
                  rw [o_upd_e]
                  unfold o_cpy
                  rw [if_neg (by omega)]
                  exact q3 j hj
                · rw [if_pos h0] at h
                  exact am_f h0 (h I2 L (c + 1) (by omega) hC2)
              by_cases hlt : g_T G kind (G 44) (G 26) f < nn
              · refine am_nf (show I2 0 15 < nI nn by rw [j15]; exact nI_lt hlt (by omega)) ?_
                show G2 73 [some (.ref 0), some (.int (nI kind)), some (.int (nI f)), some (.int (nI s)), some (.int a), some (.int i), some (.int (nI nn)), none, none, none] [.int (I2 0 15)] I2 L
                rw [j15]
                exact aft _ (by unfold g_mn; rw [if_pos hlt])
              · refine am_nt (show ¬ I2 0 15 < nI nn by rw [j15]; exact nI_nlt (by omega) (by omega)) ?_
                exact aft nn (by unfold g_mn; rw [if_neg hlt])
            · rw [if_pos (fun q => hn q.2.2.2.2)] at h
              exact hG2 [] 100 0 _ _ _ _ (am_f (am_bp hx) (am_f (am_bp hy) (am_f (am_bp hz) (am_f (am_bp ((m_in (hi := 2) (hi1 := 3) rfl rfl).mpr ha)) (am_nf (am_bn (fun q => hn (m_in1.mp q))) (h I L c (by omega) hC))))))
          · rw [if_pos (fun q => ha q.2.2.2.1)] at h
            exact hG2 [] 100 0 _ _ _ _ (am_f (am_bp hx) (am_f (am_bp hy) (am_f (am_bp hz) (am_t (am_bn (fun q => ha ((m_in (hi := 2) (hi1 := 3) rfl rfl).mp q))) (h I L c (by omega) hC)))))
        · rw [if_pos (fun q => hz q.2.2.1)] at h
          exact hG2 [] 100 0 _ _ _ _ (am_f (am_bp hx) (am_f (am_bp hy) (am_t (am_bn hz) (h I L c (by omega) hC))))
      · rw [if_pos (fun q => hy q.2.1)] at h
        exact hG2 [] 100 0 _ _ _ _ (am_f (am_bp hx) (am_t (am_bn hy) (h I L c (by omega) hC)))
    · rw [if_pos (fun q => hx q.1)] at h
      exact hG2 [] 100 0 _ _ _ _ (am_t (am_bn hx) (h I L c (by omega) hC))
  · exact h.elim
