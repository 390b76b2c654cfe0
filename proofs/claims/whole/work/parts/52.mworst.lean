/-! THE REFERENCE: the way that is best at worst -/
def T_MD_worst : am_Sp := fun vs I L post => match vs with
  | [.ref o, .int x] => o = 0 ∧ ∃ A c, MR I L A c ∧ c + 4096 ≤ 1073741824 ∧ ∀ (I2 : am_I) (L2 : am_J) (c2 : Nat), c2 ≤ c + 4096 → MR I2 L2 (o_worst A x).2 c2 → post (some (.int (o_worst A x).1)) I2 L2
  | _ => False
def sp_MD_worst : Nat → am_Sp := fun i => match i with
  | 66 => T_MD_isPlace
  | 194 => T_MD_layNeeds
  | _ => am_no
set_option maxRecDepth 100000 in
set_option maxHeartbeats 4000000 in
theorem ok_MD_worst : am_Ok am_SM sp_MD_worst false k_MD_worst 2 T_MD_worst := by
  intro vs I L post h
  unfold T_MD_worst at h
  split at h
  · rename_i o x
    obtain ⟨rfl, A, c, hC, hc, h⟩ := h
    refine ⟨Nat.le_of_ble_eq_true rfl, fun G2 hG2 => ?_⟩
    obtain ⟨G, K, hk, tn, tt, ln, sz, it⟩ := A
    obtain ⟨hV, hM, hK, hk1, htn, htt, hMS, hSh⟩ := id hC
    have hW : WG G := hV.1
    have h12 := hW.1
    dsimp only [o_worst] at h
    by_cases hx : 0 ≤ x ∧ x < 8
    · rw [if_neg (fun q => q hx)] at h
      obtain ⟨f, hf8, rfl⟩ := am_rng (n := 8) (by omega) hx.1 hx.2
      rw [nI_clamp (by omega)] at h
      refine hG2 [] 100 0 _ _ _ _ (am_nt (am_bp hx) (And.intro (rfl) (Exists.intro (G) (And.intro (hW) (And.intro (hM) (fun I2 N hLW hTH hNE hlo hup ho hoz => ?_))))))
      · have hC2 : MR I2 L (G, K, hk, tn, tt, ln, sz, it) c := MR_GF hC (fun a a0 a7 _ _ _ a11 a12 => ho a a0 a7 a11 a12) ⟨hoz 1 (by omega), hoz 3 (by omega)⟩ ⟨by rw [hoz 20 (by omega)]; exact hMS.1, fun s hs => by rw [ho 10 (by omega) (by omega) (by omega) (by omega)]; exact hMS.2 s hs⟩
        have hal := (g_al_le hW).2
        have e0 : ∀ p, p < 8 → I2 11 (nI p).toNatClampNeg = nI (N 0 p) := fun p hp => by
          rw [nI_clamp (by omega)]
          have := (hNE 0 p (by omega) (by omega) hp).1
          rwa [show 8 * 0 + p = p by omega] at this
        have ed : N 0 f = g_d (g_E G (G 25)) (G 43) f := Nat.le_antisymm (hup 0 f (by omega) (by omega) hf8) (hlo 0 f (by omega) (by omega) hf8 (g_n1_0 G))
        have h5 : vp_in (nI f) 5832 := am_vin (by omega) rfl
        have hle := g_d_le (g_E G (G 25)) (G 43) f
        by_cases hd : g_d (g_E G (G 25)) (G 43) f < 10000
        · rw [if_pos hd] at h
          refine And.intro h5 (am_t (by rw [e0 f hf8, ed]; show nI _ < nI 10000; exact nI_lt hd (by omega)) (And.intro h5 ?_))
          show post (some (.int (I2 11 (nI f).toNatClampNeg))) I2 L
          rw [e0 f hf8, ed]
          exact h I2 L c (by omega) hC2
        · rw [if_neg hd] at h
          exact And.intro h5 (am_f (by rw [e0 f hf8, ed]; show ¬ nI _ < nI 10000; exact nI_nlt (show 10000 ≤ g_d (g_E G (G 25)) (G 43) f by omega) (show g_d (g_E G (G 25)) (G 43) f < _ by omega)) (h I2 L c (by omega) hC2))
    · rw [if_pos hx] at h
      exact hG2 [] 100 0 _ _ _ _ (am_nf (am_bn hx) (h I L c (by omega) hC))
  · exact h.elim
def T_MD_next : am_Sp := fun vs I L post => match vs with
  | [.ref o, .int x] => o = 0 ∧ ∃ A c, MR I L A c ∧ c + 4096 ≤ 1073741824 ∧ ∀ (I2 : am_I) (L2 : am_J) (c2 : Nat), c2 ≤ c + 4096 → MR I2 L2 (o_next A x).2 c2 → post (some (.int (o_next A x).1)) I2 L2
  | _ => False
def sp_MD_next : Nat → am_Sp := fun i => match i with
  | 66 => T_MD_isPlace
  | 191 => T_MD_needBy
  | 194 => T_MD_layNeeds
  | _ => am_no
set_option maxRecDepth 100000 in
set_option maxHeartbeats 4000000 in
theorem ok_MD_next : am_Ok am_SM sp_MD_next false k_MD_next 4 T_MD_next := by
  intro vs I L post h
  unfold T_MD_next at h
  split at h
  · rename_i o x
    obtain ⟨rfl, A, c, hC, hc, h⟩ := h
    refine ⟨Nat.le_of_ble_eq_true rfl, fun G2 hG2 => ?_⟩
    obtain ⟨G, K, hk, tn, tt, ln, sz, it⟩ := A
    obtain ⟨hV, hM, hK, hk1, htn, htt, hMS, hSh⟩ := id hC
    have hW : WG G := hV.1
    have h12 := hW.1
    dsimp only [o_next] at h
    by_cases hx : 0 ≤ x ∧ x < 8
    · rw [if_neg (fun q => q hx)] at h
      obtain ⟨f, hf8, rfl⟩ := am_rng (n := 8) (by omega) hx.1 hx.2
      rw [nI_clamp (by omega)] at h
      refine hG2 [(19, [])] 100 0 _ _ _ _ (am_nt (am_bp hx) (And.intro (rfl) (Exists.intro (G) (And.intro (hW) (And.intro (hM) (fun I2 N hLW hTH hNE hlo hup ho hoz => ?_))))))
      · have hC2 : MR I2 L (G, K, hk, tn, tt, ln, sz, it) c := MR_GF hC (fun a a0 a7 _ _ _ a11 a12 => ho a a0 a7 a11 a12) ⟨hoz 1 (by omega), hoz 3 (by omega)⟩ ⟨by rw [hoz 20 (by omega)]; exact hMS.1, fun s hs => by rw [ho 10 (by omega) (by omega) (by omega) (by omega)]; exact hMS.2 s hs⟩
        have hal := (g_al_le hW).2
        have e0 : ∀ p, p < 8 → I2 11 (nI p).toNatClampNeg = nI (N 0 p) := fun p hp => by
          rw [nI_clamp (by omega)]
          have := (hNE 0 p (by omega) (by omega) hp).1
          rwa [show 8 * 0 + p = p by omega] at this
        have ed : N 0 f = g_d (g_E G (G 25)) (G 43) f := Nat.le_antisymm (hup 0 f (by omega) (by omega) hf8) (hlo 0 f (by omega) (by omega) hf8 (g_n1_0 G))
        have h5 : vp_in (nI f) 5832 := am_vin (by omega) rfl
        have hle := g_d_le (g_E G (G 25)) (G 43) f
        have h43 : G 43 < 8 := hW.2.2.2.2.2.2.2.2.1
        have e1 : I2 1 = I 1 := ho 1 (by omega) (by omega) (by omega) (by omega)
        have w43 : I2 1 (43 : Int32).toNatClampNeg = nI (G 43) := by rw [e1]; exact RM_i hM 43 (by omega)
        by_cases hh : f = G 43
        · rw [if_pos hh] at h
          show G2 19 [some (.ref 0), some (.int (nI f)), some (.int (-4)), some (.int (7))] [] I2 L
          exact hG2 [] 100 19 _ _ _ _ (am_f (by decide) (And.intro (am_vin (n := 43) (by decide) rfl) (am_t (by rw [w43, hh]) (h I2 L c (by omega) hC2))))
        · rw [if_neg hh] at h
          have n43 : ¬ nI f = I2 1 (43 : Int32).toNatClampNeg := by rw [w43, nI_eq (by omega) (by omega)]; exact hh
          by_cases hd : g_d (g_E G (G 25)) (G 43) f < 10000
          · obtain ⟨b, b1, b2, b3, b4⟩ := g_to_nb hW hf8 hd hh
            rw [b1] at h
            have loop : ∀ j1 (v : Int32), j1 ≤ 8 → (j1 ≤ b → v = nI b) → G2 19 [some (.ref 0), some (.int (nI f)), some (.int (v)), some (.int (nI j1 - 1))] [] I2 L := by
              intro j1
              induction j1 with
              | zero =>
                intro v _ hv
                rw [hv (by omega)]
                exact hG2 [] 100 19 _ _ _ _ (am_t (by decide) (h I2 L c (by omega) hC2))
              | succ j ih =>
                intro v hj hv
                rw [nI_pred]
                have hit := g_nb_next hW hf8 (show j < 8 by omega) hd hlo hup
                have nx : ∀ w : Int32, (j ≤ b → w = nI b) → G2 68 [some (.ref 0), some (.int (nI f)), some (.int (w)), some (.int (nI j))] [] I2 L := by
                  intro w hw
                  refine hG2 [(19, [])] 100 68 _ _ _ _ ?_
                  show G2 19 [some (.ref 0), some (.int (nI f)), some (.int (w)), some (.int (nI j + -1))] [] I2 L
                  rw [show nI j + (-1 : Int32) = nI j - 1 from (Int32.sub_eq_add_neg (nI j) 1).symm]
                  exact ih w (by omega) hw
                refine hG2 [(19, []), (68, [])] 100 19 _ _ _ _ (am_f (nI_pos (by omega)) (And.intro (am_vin (n := 43) (by decide) rfl) (am_f n43 (And.intro h5 (am_nf (by rw [e0 f hf8, ed]; show nI _ < nI 10000; exact nI_lt hd (by omega)) (And.intro (rfl) (Exists.intro (G) (Exists.intro (N) (Exists.intro (f) (Exists.intro (j) (Exists.intro (0) (And.intro (hW) (And.intro (RM_fr hM e1) (And.intro (hLW) (And.intro (hTH) (And.intro (hNE) (And.intro (by omega) (And.intro (hf8) (And.intro (by omega) (And.intro (rfl) (And.intro (rfl) (And.intro (rfl) (?_)))))))))))))))))))))))
                refine And.intro h5 ?_
                show (¬ nI (g_nb G N f j 0) = I2 11 (nI f).toNatClampNeg → _) ∧ (nI (g_nb G N f j 0) = I2 11 (nI f).toNatClampNeg → _)
                have hnl := g_nb_le G N f j 0
                rw [e0 f hf8, ed, nI_eq (by omega) (by omega), hit]
                by_cases e : g_E G (G 25) f j = true ∧ g_d (g_E G (G 25)) (G 43) j + 1 = g_d (g_E G (G 25)) (G 43) f
                · refine am_nf e (nx (nI j) (fun hjb => ?_))
                  have : ¬ j < b := fun z => b4 j z e
                  rw [show j = b by omega]
                · refine am_nt e (nx v (fun hjb => hv ?_))
                  have : ¬ j = b := fun z => e (by rw [z]; exact b3)
                  omega
            show G2 19 [some (.ref 0), some (.int (nI f)), some (.int (-4)), some (.int (7))] [] I2 L
            rw [show (7 : Int32) = nI 8 - 1 by decide]
            exact loop 8 (-4) (Nat.le_refl 8) (fun z => by omega)
          · rw [g_to_far (g_E_sym G (G 25)) h43 hf8 hd] at h
            show G2 19 [some (.ref 0), some (.int (nI f)), some (.int (-4)), some (.int (7))] [] I2 L
            exact hG2 [] 100 19 _ _ _ _ (am_f (by decide) (And.intro (am_vin (n := 43) (by decide) rfl) (am_f n43 (And.intro h5 (am_nt (by rw [e0 f hf8, ed]; show ¬ nI _ < nI 10000; exact nI_nlt (show 10000 ≤ g_d (g_E G (G 25)) (G 43) f by omega) (show g_d (g_E G (G 25)) (G 43) f < _ by omega)) (h I2 L c (by omega) hC2))))))
    · rw [if_pos hx] at h
      exact hG2 [] 100 0 _ _ _ _ (am_nf (am_bn hx) (h I L c (by omega) hC))
  · exact h.elim
