/-! THE REFERENCE: the pass -/
theorem am_nb (x : Int32) : nI x.toBitVec.toNat = x := by
  apply Int32.toBitVec_inj.1
  show BitVec.ofNat 32 x.toBitVec.toNat = x.toBitVec
  simp
theorem MR_ps {I I2 : am_I} {L : am_J} {G G' K : Nat → Nat} {hk : Bool} {tn : Nat} {tt : Nat → Nat} {ln : Nat → Int32} {sz : Nat → Nat} {it : Nat → Nat → Int64} {c : Nat} (h : MR I L (G, K, hk, tn, tt, ln, sz, it) c) (hW : WG G') (h1 : ∀ i, i < 45 → I2 1 i = nI (G' i)) (h45 : ∀ i, 45 ≤ i → I2 1 i = I 1 i) (h3 : I2 0 3 = 0) (hI : ∀ a : Nat, a ≠ 0 → a ≠ 1 → a ≠ 3 → a ≠ 4 → a ≠ 5 → a ≠ 6 → I2 a = I a) (h0 : ∀ k : Nat, k ≠ 3 → k ≠ 4 → k ≠ 7 → k ≠ 8 → k ≠ 11 → I2 0 k = I 0 k) : MR I2 L (G', K, hk, 0, tt, ln, sz, it) c := by
  obtain ⟨hV, hM, hK, hk1, htn, htt, hMS, hSh⟩ := h
  refine ⟨⟨hW, hV.2.1, by omega, fun j hj => by omega, hV.2.2.2.2⟩, fun i hi => by rw [Nat.zero_add]; exact h1 i hi, fun q i hi => by rw [h45 _ (by omega)]; exact hK q i hi, by rw [h0 1 (by omega) (by omega) (by omega) (by omega) (by omega)]; exact hk1, h3, fun j hj => by omega, ⟨by rw [h0 20 (by omega) (by omega) (by omega) (by omega) (by omega)]; exact hMS.1, fun s hs => by rw [hI 10 (by omega) (by omega) (by omega) (by omega) (by omega) (by omega)]; exact hMS.2 s hs⟩, fun s hs => ?_⟩
  rw [hI 13 (by omega) (by omega) (by omega) (by omega) (by omega) (by omega), hI 14 (by omega) (by omega) (by omega) (by omega) (by omega) (by omega)]
  exact hSh s hs
def m_F1 (J : am_I) (D : Nat → Nat) (k i : Nat) : Int32 := if (1 ≤ i ∧ i < 1 + k) ∨ (13 ≤ i ∧ i < 13 + k) then nI (D i) else J 1 i
def m_F2 (J : am_I) (D : Nat → Nat) (p i : Nat) : Int32 := if 27 ≤ i ∧ i < 27 + p then J 5 (i - 27) else if 35 ≤ i ∧ i < 35 + p then J 6 (i - 35) else m_F1 J D (D 0) i
def m_u (J : am_I) (i : Nat) : Nat := if i < 35 then (J 5 (i - 27)).toBitVec.toNat else (J 6 (i - 35)).toBitVec.toNat
def T_MD_pass : am_Sp := fun vs I L post => match vs with
  | [.ref o] => o = 0 ∧ ∃ A c, MR I L A c ∧ c + 4096 ≤ 1073741824 ∧ ∀ (I2 : am_I) (L2 : am_J) (c2 : Nat) (u : Nat → Nat), c2 ≤ c + 4096 → MR I2 L2 (o_pass A u).2 c2 → post (some (.int (o_pass A (fun _ => 0)).1)) I2 L2
  | _ => False
def sp_MD_pass : Nat → am_Sp := fun i => match i with
  | 125 => T_MD_isPass
  | _ => am_no
set_option maxRecDepth 100000 in
set_option maxHeartbeats 4000000 in
theorem ok_MD_pass : am_Ok am_SM sp_MD_pass false k_MD_pass 3 T_MD_pass := by
  intro vs I L post h
  unfold T_MD_pass at h
  split at h
  · rename_i o
    obtain ⟨rfl, A, c, hC, hc, h⟩ := h
    refine ⟨Nat.le_of_ble_eq_true rfl, fun G2 hG2 => ?_⟩
    obtain ⟨G, K, hk, tn, tt, ln, sz, it⟩ := A
    obtain ⟨hV, hM, hK, hk1, htn, htt, hMS, hSh⟩ := id hC
    have hW : WG G := hV.1
    dsimp only [o_pass] at h
    refine hG2 [(10, [])] 100 0 _ _ _ _ (And.intro (rfl) (Exists.intro (tn) (Exists.intro (tt) (And.intro (⟨hV.2.2.1, hV.2.2.2.1⟩) (And.intro (⟨htn, htt⟩) (fun t I2 f2 h4 htn2 hp ht => ?_))))))
    have w : ∀ i : Nat, i < 45 → I2 1 i = nI (G i) := fun i hi => by rw [f2.1 1 (by omega) (by omega) (by omega) (by omega) (by omega)]; exact RM_i hM i hi
    by_cases hr : (p_all tn tt).1 = true
    · have hD := hp hr
      rw [am_b1 hr]
      have h : ∀ (I2 : am_I) (u : Nat → Nat), MR I2 L (g_new G (p_all tn tt).2.2 u, K, hk, 0, tt, ln, sz, it) c → post (some (.int (nI ((p_all tn tt).2.2 0)))) I2 L := fun I2 u q => by
        have := h I2 L c u (by omega) (by rw [if_pos hr]; exact q)
        rw [if_pos hr] at this
        exact this
      generalize (p_all tn tt).2.2 = D at h hD
      clear hp ht
      obtain ⟨wD, _, _, c7, c8, c11, cw, cs⟩ := hD
      have h12 := wD.1
      show G2 10 [some (.ref 0), some (.int (1)), none] [] (am_ui I2 0 3 0) L
      obtain ⟨J, hJ⟩ : ∃ J, J = am_ui I2 0 3 0 := ⟨_, rfl⟩
      rw [← hJ]
      have jo : ∀ a : Nat, a ≠ 0 → J a = I2 a := fun a ha => by rw [hJ, am_ui_o ha]
      have j0 : ∀ k : Nat, k ≠ 3 → J 0 k = I2 0 k := fun k hk => by rw [hJ, am_uk hk]
      have j3 : J 0 3 = 0 := by rw [hJ, am_ui_e]
      have fin : ∀ X : am_I, (∀ a : Nat, a ≠ 1 → X a = J a) → (∀ i, X 1 i = if i = 44 then 0 else if i = 26 then nI (D 26) else if i = 25 then nI (D 25) else if i = 0 then nI (D 0) else m_F2 J D 8 i) → post (some (.int (nI (D 0)))) X L := by
        intro X hX h1
        refine h X (m_u J) (MR_ps hC (WG_new wD hW.2.2.2.2.2.2.2.2.1) (fun i hi => ?_) (fun i hi => ?_) (by rw [hX 0 (by omega)]; exact j3) (fun a a0 a1 a3 a4 a5 a6 => by rw [hX a a1, jo a a0]; exact f2.1 a a0 a3 a4 a5 a6) (fun k k3 k4 k7 k8 k11 => by rw [hX 0 (by omega), j0 k k3]; exact f2.2 k k4 k7 k8 k11))
        · rw [h1]
          unfold g_new
          by_cases e44 : i = 44
          · rw [if_pos e44, if_neg (by omega), if_neg (by omega), if_pos e44]; rfl
          · rw [if_neg e44]
            by_cases e26 : i = 26
            · rw [if_pos e26, if_pos (by omega), e26]
            · rw [if_neg e26]
              by_cases e25 : i = 25
              · rw [if_pos e25, if_pos (by omega), e25]
              · rw [if_neg e25]
                by_cases e0 : i = 0
                · rw [if_pos e0, if_pos (by omega), e0]
                · rw [if_neg e0, if_neg (by omega)]
                  unfold m_F2
                  by_cases e43 : i = 43
                  · rw [if_pos e43, if_neg (by omega), if_neg (by omega)]
                    unfold m_F1
                    rw [if_neg (by omega), jo 1 (by omega), e43]
                    exact w 43 (by omega)
                  · rw [if_neg e43, if_neg e44]
                    by_cases a27 : 27 ≤ i ∧ i < 35
                    · rw [if_pos (by omega), if_pos a27]
                      by_cases hb : (D 26).testBit (i - 27) = true
                      · rw [if_pos hb, jo 5 (by omega), (cs (i - 27) (by omega) hb).1, show 27 + (i - 27) = i by omega]
                      · rw [if_neg hb]
                        unfold m_u
                        rw [if_pos (by omega), am_nb]
                    · rw [if_neg (by omega), if_neg a27]
                      by_cases a35 : 35 ≤ i ∧ i < 43
                      · rw [if_pos (by omega), if_pos a35]
                        by_cases hb : (D 26).testBit (i - 35) = true
                        · rw [if_pos hb, jo 6 (by omega), (cs (i - 35) (by omega) hb).2, show 35 + (i - 35) = i by omega]
                        · rw [if_neg hb]
                          unfold m_u
                          rw [if_neg (by omega), am_nb]
                      · rw [if_neg (by omega), if_neg a35]
                        unfold m_F1
                        by_cases ew : (1 ≤ i ∧ i < 1 + D 0) ∨ (13 ≤ i ∧ i < 13 + D 0)
                        · rw [if_pos ew, if_pos ew]
                        · rw [if_neg ew, if_neg ew, jo 1 (by omega)]
                          exact w i hi
        · rw [h1, if_neg (by omega), if_neg (by omega), if_neg (by omega), if_neg (by omega)]
          unfold m_F2
          rw [if_neg (by omega), if_neg (by omega)]
          unfold m_F1
          rw [if_neg (by omega), jo 1 (by omega), f2.1 1 (by omega) (by omega) (by omega) (by omega) (by omega)]
      have loop2 : ∀ d p (X : am_I), 8 - p = d → p ≤ 8 → (∀ a : Nat, a ≠ 1 → X a = J a) → (∀ i, X 1 i = m_F2 J D p i) → G2 69 [some (.ref 0), some (.int (1)), some (.int (nI p))] [] X L := by
        intro d
        induction d with
        | zero =>
          intro p X hd hp8 hX h1
          have e : p = 8 := by omega
          subst e
          have r7 : ∀ v v2 v3 : Int32, am_ui (am_ui (am_ui X 1 0 v) 1 25 v2) 1 26 v3 0 8 = X 0 8 := fun v v2 v3 => rfl
          have x7 : X 0 7 = nI (D 0) := by rw [hX 0 (by omega), j0 7 (by omega)]; exact c7
          have x8 : X 0 8 = nI (D 25) := by rw [hX 0 (by omega), j0 8 (by omega)]; exact c8
          have x11 : X 0 11 = nI (D 26) := by rw [hX 0 (by omega), j0 11 (by omega)]; exact c11
          refine hG2 [] 100 69 _ _ _ _ (am_nt (am_nlt (Nat.le_refl 8) rfl) (And.intro (am_vin (n := 0) (by decide) rfl) (And.intro (am_vin (n := 25) (by decide) rfl) (And.intro (am_vin (n := 26) (by decide) rfl) (And.intro (am_vin (n := 44) (by decide) rfl) ?_)))))
          show post (some (.int (X 0 7))) (am_ui (am_ui (am_ui (am_ui X 1 0 (X 0 7)) 1 25 (X 0 8)) 1 26 (X 0 11)) 1 44 0) L
          rw [x7, x8, x11]
          refine fin _ (fun a ha => by rw [am_ui_o ha, am_ui_o ha, am_ui_o ha, am_ui_o ha]; exact hX a ha) (fun i => ?_)
          by_cases e44 : i = 44
          · rw [if_pos e44, e44, am_ui_e]
          · rw [if_neg e44, am_uk e44]
            by_cases e26 : i = 26
            · rw [if_pos e26, e26, am_ui_e]
            · rw [if_neg e26, am_uk e26]
              by_cases e25 : i = 25
              · rw [if_pos e25, e25, am_ui_e]
              · rw [if_neg e25, am_uk e25]
                by_cases e0 : i = 0
                · rw [if_pos e0, e0, am_ui_e]
                · rw [if_neg e0, am_uk e0]; exact h1 i
        | succ d ih =>
          intro p X hd hp8 hX h1
          have cp : (nI p).toNatClampNeg = p := nI_clamp (by omega)
          have i27 : ((27 : Int32) + nI p).toNatClampNeg = 27 + p := am_ix (a := 27) (by omega)
          have i35 : ((35 : Int32) + nI p).toNatClampNeg = 35 + p := am_ix (a := 35) (by omega)
          refine hG2 [(69, [])] 100 69 _ _ _ _ (am_nf (am_lt (show p < 8 by omega) rfl) (And.intro (am_vin (by omega) rfl) (And.intro (am_ixv (a := 27) (by omega)) (And.intro (am_vin (by omega) rfl) (And.intro (am_ixv (a := 35) (by omega)) ?_)))))
          show G2 69 [some (.ref 0), some (.int (1)), some (.int (nI p + 1))] [] (am_ui (am_ui X 1 ((27 : Int32) + nI p).toNatClampNeg (X 5 (nI p).toNatClampNeg)) 1 ((35 : Int32) + nI p).toNatClampNeg (X 6 (nI p).toNatClampNeg)) L
          rw [i27, i35, cp, nI_1]
          refine ih (p + 1) _ (by omega) (by omega) (fun a ha => by rw [am_ui_o ha, am_ui_o ha]; exact hX a ha) (fun i => ?_)
          unfold m_F2
          by_cases e35 : i = 35 + p
          · rw [e35, am_ui_e, if_neg (by omega), if_pos (by omega), hX 6 (by omega), show 35 + p - 35 = p by omega]
          · rw [am_uk e35]
            by_cases e27 : i = 27 + p
            · rw [e27, am_ui_e, if_pos (by omega), hX 5 (by omega), show 27 + p - 27 = p by omega]
            · rw [am_uk e27, h1]
              unfold m_F2
              by_cases a27 : 27 ≤ i ∧ i < 27 + p
              · rw [if_pos a27, if_pos (by omega)]
              · rw [if_neg a27]
                by_cases a35 : 35 ≤ i ∧ i < 35 + p
                · rw [if_pos a35, if_neg (by omega), if_pos (by omega)]
                · rw [if_neg a35, if_neg (by omega), if_neg (by omega)]
      have loop1 : ∀ d k (X : am_I), D 0 - k = d → k ≤ D 0 → (∀ a : Nat, a ≠ 1 → X a = J a) → (∀ i, X 1 i = m_F1 J D k i) → G2 24 [some (.ref 0), some (.int (1)), some (.int (nI k))] [] X L := by
        intro d
        induction d with
        | zero =>
          intro k X hd hk2 hX h1
          have e : k = D 0 := by omega
          subst e
          have x7 : X 0 7 = nI (D 0) := by rw [hX 0 (by omega), j0 7 (by omega)]; exact c7
          refine hG2 [(69, [])] 100 24 _ _ _ _ (am_nt (by rw [x7]; exact nI_nlt (Nat.le_refl _) (by omega)) ?_)
          refine loop2 8 0 X (by omega) (by omega) hX (fun i => ?_)
          rw [h1]
          unfold m_F2
          rw [if_neg (by omega), if_neg (by omega)]
        | succ d ih =>
          intro k X hd hk2 hX h1
          have hk3 : k < D 0 := by omega
          have x7 : X 0 7 = nI (D 0) := by rw [hX 0 (by omega), j0 7 (by omega)]; exact c7
          have ck : (nI k).toNatClampNeg = k := nI_clamp (by omega)
          have i1 : ((1 : Int32) + nI k).toNatClampNeg = 1 + k := am_ix (a := 1) (by omega)
          have i13 : ((13 : Int32) + nI k).toNatClampNeg = 13 + k := am_ix (a := 13) (by omega)
          have x3 : X 3 k = nI (D (1 + k)) := by rw [hX 3 (by omega), jo 3 (by omega)]; exact (cw k hk3).1
          have x4 : X 4 k = nI (D (13 + k)) := by rw [hX 4 (by omega), jo 4 (by omega)]; exact (cw k hk3).2
          refine hG2 [(24, [])] 100 24 _ _ _ _ (am_nf (by rw [x7]; exact nI_lt hk3 (by omega)) (And.intro (am_vin (by omega) rfl) (And.intro (am_ixv (a := 1) (by omega)) (And.intro (am_vin (by omega) rfl) (And.intro (am_ixv (a := 13) (by omega)) ?_)))))
          show G2 24 [some (.ref 0), some (.int (1)), some (.int (nI k + 1))] [] (am_ui (am_ui X 1 ((1 : Int32) + nI k).toNatClampNeg (X 3 (nI k).toNatClampNeg)) 1 ((13 : Int32) + nI k).toNatClampNeg (X 4 (nI k).toNatClampNeg)) L
          rw [i1, i13, ck, nI_1, x3, x4]
          refine ih (k + 1) _ (by omega) (by omega) (fun a ha => by rw [am_ui_o ha, am_ui_o ha]; exact hX a ha) (fun i => ?_)
          unfold m_F1
          by_cases e13 : i = 13 + k
          · rw [e13, am_ui_e, if_pos (by omega)]
          · rw [am_uk e13]
            by_cases e1 : i = 1 + k
            · rw [e1, am_ui_e, if_pos (by omega)]
            · rw [am_uk e1, h1]
              unfold m_F1
              by_cases ew : (1 ≤ i ∧ i < 1 + k) ∨ (13 ≤ i ∧ i < 13 + k)
              · rw [if_pos ew, if_pos (by omega)]
              · rw [if_neg ew, if_neg (by omega)]
      refine hG2 [(24, [])] 100 10 _ _ _ _ (am_nt (by decide) ?_)
      refine loop1 (D 0) 0 J (by omega) (by omega) (fun _ _ => rfl) (fun i => ?_)
      unfold m_F1
      rw [if_neg (by omega)]
    · have hr0 : (p_all tn tt).1 = false := by simpa using hr
      have htr := ht hr0
      rw [am_b0 hr]
      show G2 10 [some (.ref 0), some (.int (0)), none] [] (am_ui I2 0 3 0) L
      refine hG2 [] 100 10 _ _ _ _ (am_nf rfl ?_)
      show post (some (.int (-20 - I2 0 4))) (am_ui I2 0 3 0) L
      have h := h (am_ui I2 0 3 0) L c (fun _ => 0) (by omega)
      rw [if_neg hr] at h
      rw [h4, htr]
      refine h (MR_ps hC hW (fun i hi => by rw [am_uo (by omega)]; exact w i hi) (fun i hi => by rw [am_uo (by omega), f2.1 1 (by omega) (by omega) (by omega) (by omega) (by omega)]) am_ui_e (fun a a0 a1 a3 a4 a5 a6 => by rw [am_ui_o a0]; exact f2.1 a a0 a3 a4 a5 a6) (fun k k3 k4 k7 k8 k11 => by rw [am_uk k3]; exact f2.2 k k4 k7 k8 k11))
  · exact h.elim
