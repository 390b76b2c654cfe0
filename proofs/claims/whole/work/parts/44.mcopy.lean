/-! THE REFERENCE: a sheet copied -/
theorem am_i24b {s a k : Nat} (hs : s < 4) (hk : a + k < 24) : ((24 : Int32) * nI s + nI a + nI k).toNatClampNeg = 24 * s + a + k ∧ vp_in ((24 : Int32) * nI s + nI a + nI k) 96 := by
  have e : (24 : Int32) * nI s + nI a + nI k = nI (24 * s + a + k) := by rw [show (24 : Int32) = nI 24 from rfl, pk_mul, nI_add, nI_add]
  rw [e]
  exact ⟨nI_clamp (by omega), am_vin (by omega) rfl⟩
def T_MD_copy : am_Sp := fun vs I L post => match vs with
  | [.ref o, .int s, .int i, .int t, .int j, .int n] => o = 0 ∧ ∃ A c, MR I L A c ∧ c + 4096 ≤ 1073741824 ∧ ∀ (I2 : am_I) (L2 : am_J) (c2 : Nat), c2 ≤ c + 4096 → MR I2 L2 (o_copy A s i t j n).2 c2 → post (some (.int (o_copy A s i t j n).1)) I2 L2
  | _ => False
def sp_MD_copy : Nat → am_Sp := fun i => match i with
  | 201 => T_MD_isSheet
  | 206 => T_MD_bars
  | _ => am_no
set_option maxRecDepth 100000 in
set_option maxHeartbeats 4000000 in
theorem ok_MD_copy : am_Ok am_SM sp_MD_copy false k_MD_copy 8 T_MD_copy := by
  intro vs I L post h
  unfold T_MD_copy at h
  split at h
  · rename_i o s i t j n
    obtain ⟨rfl, A, c, hC, hc, h⟩ := h
    refine ⟨Nat.le_of_ble_eq_true rfl, fun G2 hG2 => ?_⟩
    obtain ⟨G, K, hk, tn, tt, ln, sz, it⟩ := A
    obtain ⟨hV, hM, hK, hk1, htn, htt, hMS, hSh⟩ := id hC
    have hW : WG G := hV.1
    have h12 := hW.1
    dsimp only [o_copy] at h
    by_cases hs : 0 ≤ s ∧ s < 4
    · by_cases ht : 0 ≤ t ∧ t < 4
      · rw [if_neg (by rintro (q | q); exact q hs; exact q ht)] at h
        obtain ⟨x, hx, rfl⟩ := am_rng (n := 4) (by omega) hs.1 hs.2
        obtain ⟨y, hy, rfl⟩ := am_rng (n := 4) (by omega) ht.1 ht.2
        have cx : (nI x).toNatClampNeg = x := nI_clamp (by omega)
        have cy : (nI y).toNatClampNeg = y := nI_clamp (by omega)
        simp only [cx, cy] at h
        have vx : vp_in (nI x) 4 := am_vin hx rfl
        have vy : vp_in (nI y) 4 := am_vin hy rfl
        have hlx := hV.2.2.2.2 x hx
        have hly := hV.2.2.2.2 y hy
        obtain ⟨p1, p2, p3⟩ := hSh x hx
        obtain ⟨q1, q2, q3⟩ := hSh y hy
        have rx : I 13 (nI x).toNatClampNeg = ln x := by rw [cx]; exact p1
        have ry : I 13 (nI y).toNatClampNeg = ln y := by rw [cy]; exact q1
        refine hG2 [(37, [])] 100 0 _ _ _ _ (am_f (am_bp hs) (am_nt (am_bp ht) (And.intro vx ?_)))
        by_cases l1 : ln x = -1
        · rw [if_pos (Or.inl l1)] at h
          exact am_t (by rw [rx]; exact (m_ln hlx.1).mpr l1) (h I L c (by omega) hC)
        · refine am_f (by rw [rx]; exact fun z => l1 ((m_ln hlx.1).mp z)) (And.intro vy ?_)
          by_cases l2 : ln y = -1
          · rw [if_pos (Or.inr l2)] at h
            exact am_nf (by rw [ry]; exact (m_ln hly.1).mpr l2) (h I L c (by omega) hC)
          · rw [if_neg (by rintro (z | z); exact l1 z; exact l2 z)] at h
            refine am_nt (by rw [ry]; exact fun z => l2 ((m_ln hly.1).mp z)) ?_
            refine hG2 [(78, [])] 100 37 _ _ _ _ (And.intro vy (And.intro rfl (And.intro hs ?_)))
            rw [ry, m_bars hSh hx hlx (ln y) i n]
            have fin : ∀ v : Int32, ¬ v = 0 → (∀ (I2 : am_I) (L2 : am_J) (c2 : Nat), c2 ≤ c + 4096 → MR I2 L2 (G, K, hk, tn, tt, ln, sz, it) c2 → post (some (.int v)) I2 L2) → ∀ b : Int32, G2 78 [some (.ref 0), some (.int (nI x)), some (.int i), some (.int (nI y)), some (.int j), some (.int n), some (.int b), none] [.int v] I L := fun v hv hh b => hG2 [] 100 78 _ _ _ _ (am_f hv (hh I L c (by omega) hC))
            by_cases l3 : ln x = ln y
            · rw [if_neg (fun z => z l3)] at h
              have br := @o_bars_ran ln sz x (ln y) i n l1 l3
              have cr := @o_bars_ran ln sz y (ln x) j n l2 l3.symm
              by_cases hi : 0 ≤ i.toInt ∧ 0 ≤ n.toInt ∧ i.toInt + n.toInt ≤ (sz x : Int)
              · refine am_nf (br.mpr hi) (And.intro vx (And.intro rfl (And.intro ht ?_)))
                rw [rx, m_bars hSh hy hly (ln x) j n]
                by_cases hj : 0 ≤ j.toInt ∧ 0 ≤ n.toInt ∧ j.toInt + n.toInt ≤ (sz y : Int)
                · rw [if_neg (by rintro (z | z); exact z (br.mpr hi); exact z (cr.mpr hj))] at h
                  rw [cr.mpr hj, br.mpr hi]
                  obtain ⟨ii, hii, rfl⟩ := nI_of (am_n0 hi.1)
                  obtain ⟨jj, hjj, rfl⟩ := nI_of (am_n0 hj.1)
                  obtain ⟨nn, hnn, rfl⟩ := nI_of (am_n0 hi.2.1)
                  rw [nI_toInt hii, nI_toInt hnn] at hi
                  rw [nI_toInt hjj, nI_toInt hnn] at hj
                  simp only [nI_clamp hii, nI_clamp hjj, nI_clamp hnn] at h
                  have z1 := hlx.2
                  have z2 := hly.2
                  have loop2 : ∀ d k (L1 : am_J), nn - k = d → k ≤ nn → (∀ b, b < nn → L1 16 b = it x (ii + b)) → (∀ b : Nat, L1 15 b = if 24 * y + jj ≤ b ∧ b < 24 * y + jj + k then it x (ii + (b - (24 * y + jj))) else L 15 b) → G2 128 [some (.ref 0), some (.int (nI x)), some (.int (nI ii)), some (.int (nI y)), some (.int (nI jj)), some (.int (nI nn)), some (.int 0), some (.int (nI k))] [] I L1 := by
                    intro d
                    induction d with
                    | zero =>
                      intro k L1 hd hk2 h16 h15
                      have e : k = nn := by omega
                      subst e
                      refine hG2 [] 100 128 _ _ _ _ (am_nt (nI_nlt (Nat.le_refl k) (by omega)) ?_)
                      refine h I L1 c (by omega) (MR_sh (s := y) hC (fun q h1 h2 => rfl) (fun u hu => ⟨rfl, rfl⟩) (fun u b hu hne hb => by rw [h15, if_neg (by omega)]) hly (fun u hu => ⟨rfl, rfl, o_upd_n hu⟩) q1 q2 (fun b hb => ?_))
                      rw [o_upd_e, h15]
                      unfold o_cpy
                      by_cases e : jj ≤ b ∧ b < jj + k
                      · rw [if_pos (by omega), if_pos e, show 24 * y + b - (24 * y + jj) = b - jj by omega]
                      · rw [if_neg (by omega), if_neg e]; exact q3 b hb
                    | succ d ih =>
                      intro k L1 hd hk2 h16 h15
                      obtain ⟨ix, iv⟩ := am_i24b hy (show jj + k < 24 by omega)
                      refine hG2 [(128, [])] 100 128 _ _ _ _ (am_nf (nI_lt (by omega) (by omega)) (And.intro (am_vin (show k < 24 by omega) rfl) (And.intro iv ?_)))
                      show G2 128 [some (.ref 0), some (.int (nI x)), some (.int (nI ii)), some (.int (nI y)), some (.int (nI jj)), some (.int (nI nn)), some (.int 0), some (.int (nI k + 1))] [] I (am_uj L1 15 ((24 : Int32) * nI y + nI jj + nI k).toNatClampNeg (L1 16 (nI k).toNatClampNeg))
                      rw [ix, nI_1, nI_clamp (by omega), h16 k (by omega)]
                      refine ih (k + 1) _ (by omega) (by omega) (fun b hb => (am_uja (by omega)).trans (h16 b hb)) (fun b => ?_)
                      by_cases e : b = 24 * y + jj + k
                      · subst e
                        rw [am_uj_e, if_pos (by omega), show 24 * y + jj + k - (24 * y + jj) = k by omega]
                      · rw [am_uja (fun z => e z.2), h15]
                        by_cases e2 : 24 * y + jj ≤ b ∧ b < 24 * y + jj + k
                        · rw [if_pos e2, if_pos (by omega)]
                        · rw [if_neg e2, if_neg (by omega)]
                  have loop : ∀ d k (L1 : am_J), nn - k = d → k ≤ nn → (∀ a : Nat, a ≠ 16 → L1 a = L a) → (∀ b, b < k → L1 16 b = it x (ii + b)) → G2 91 [some (.ref 0), some (.int (nI x)), some (.int (nI ii)), some (.int (nI y)), some (.int (nI jj)), some (.int (nI nn)), some (.int 0), some (.int (nI k))] [] I L1 := by
                    intro d
                    induction d with
                    | zero =>
                      intro k L1 hd hk2 ho h16
                      have e : k = nn := by omega
                      subst e
                      refine hG2 [(128, [])] 100 91 _ _ _ _ (am_nt (nI_nlt (Nat.le_refl k) (by omega)) ?_)
                      refine loop2 k 0 L1 (by omega) (by omega) h16 (fun b => ?_)
                      rw [if_neg (by omega), ho 15 (by omega)]
                    | succ d ih =>
                      intro k L1 hd hk2 ho h16
                      obtain ⟨ix, iv⟩ := am_i24b hx (show ii + k < 24 by omega)
                      refine hG2 [(91, [])] 100 91 _ _ _ _ (am_nf (nI_lt (by omega) (by omega)) (And.intro iv (And.intro (am_vin (show k < 24 by omega) rfl) ?_)))
                      show G2 91 [some (.ref 0), some (.int (nI x)), some (.int (nI ii)), some (.int (nI y)), some (.int (nI jj)), some (.int (nI nn)), some (.int 0), some (.int (nI k + 1))] [] I (am_uj L1 16 (nI k).toNatClampNeg (L1 15 ((24 : Int32) * nI x + nI ii + nI k).toNatClampNeg))
                      rw [ix, nI_1, nI_clamp (by omega), ho 15 (by omega), show 24 * x + ii + k = 24 * x + (ii + k) by omega, p3 (ii + k) (by omega)]
                      refine ih (k + 1) _ (by omega) (by omega) (fun a ha => (am_uj_o ha).trans (ho a ha)) (fun b hb => ?_)
                      by_cases e : b = k
                      · subst e; exact am_uj_e
                      · exact (am_uja (by omega)).trans (h16 b (by omega))
                  refine hG2 [(91, [])] 100 78 _ _ _ _ (am_t rfl ?_)
                  exact loop nn 0 L (by omega) (by omega) (fun _ _ => rfl) (fun b hb => by omega)
                · rw [if_pos (Or.inr (fun z => hj (cr.mp z)))] at h
                  rw [o_bars_0 l2 l3.symm, if_neg hj]
                  exact fin (-13) (by decide) h _
              · rw [if_pos (Or.inl (fun z => hi (br.mp z)))] at h
                rw [o_bars_0 l1 l3, if_neg hi]
                exact am_nt (by decide) (fin (-13) (by decide) h _)
            · rw [if_pos l3] at h
              have e : o_bars ln sz x (ln y) i n = -12 := by unfold o_bars; rw [if_neg l1, if_pos l3]
              rw [e]
              exact am_nt (by decide) (fin (-12) (by decide) h _)
      · rw [if_pos (Or.inr ht)] at h
        exact hG2 [] 100 0 _ _ _ _ (am_f (am_bp hs) (am_nf (am_bn ht) (h I L c (by omega) hC)))
    · rw [if_pos (Or.inl hs)] at h
      exact hG2 [] 100 0 _ _ _ _ (am_t (am_bn hs) (h I L c (by omega) hC))
  · exact h.elim
