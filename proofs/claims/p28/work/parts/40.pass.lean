/-! THE CLASS: the pass -/
theorem am_ex (x : Int32) : ∃ g, x = nI g := ⟨x.toBitVec.toNat, by
  apply Int32.toBitVec_inj.1
  show x.toBitVec = BitVec.ofNat 32 x.toBitVec.toNat
  simp⟩
theorem RC_ext {I : am_I} {L : am_J} {r : Nat} {G G' : Nat → Nat} (h : RC I L r G) (h0 : G' 0 = G 0) (h25 : G' 25 = G 25) (h26 : G' 26 = G 26) (h43 : G' 43 = G 43) (h44 : G' 44 = G 44) (hw : ∀ k, k < G 0 → G' (1 + k) = G (1 + k) ∧ G' (13 + k) = G (13 + k)) (hs : ∀ p, p < 8 → (G 26).testBit p = true → G' (27 + p) = G (27 + p) ∧ G' (35 + p) = G (35 + p)) : RC I L r G' := by
  obtain ⟨r5, r6, r7, r8, r9, rw2, rj, rs, rn, rc⟩ := h
  have ew : ∀ a b, g_wy G' a b = g_wy G a b := fun a b => by unfold g_wy; rw [h0]; exact g_w_congr a b (G 0) hw
  have ee : ∀ s a b, g_E G' s a b = g_E G s a b := fun s a b => by unfold g_E; rw [ew]
  refine ⟨by rw [h0]; exact r5, by rw [h25]; exact r6, by rw [h44]; exact r7, by rw [h26]; exact r8, by rw [h43]; exact r9, fun k hk => ?_, fun a b ha hb => by rw [ew]; exact rj a b ha hb, fun p hp hb => ?_, fun a b ha hb => by rw [ee]; exact rn a b ha hb, fun a b ha hb => by rw [ee, h25]; exact rc a b ha hb⟩
  · rw [h0] at hk
    rw [(hw k hk).1, (hw k hk).2]; exact rw2 k hk
  · rw [h26] at hb
    rw [(hs p hp hb).1, (hs p hp hb).2]; exact rs p hp hb
theorem RC_goal {I : am_I} {L : am_J} {r g : Nat} {G : Nat → Nat} (h12 : G 0 ≤ 12) (h : RC I L r G) : RC (am_ui I r 9 (nI g)) L r (g_put G 43 g) := by
  have e : ∀ i, i ≠ 43 → g_put G 43 g i = G i := fun i hi => if_neg hi
  obtain ⟨r5, r6, r7, r8, r9, rw2, rj, rs, rn, rc⟩ := h
  have ew : ∀ a b, g_wy (g_put G 43 g) a b = g_wy G a b := fun a b => g_wy_congr h12 (fun i hi => e i (by omega)) a b
  have ee : ∀ s a b, g_E (g_put G 43 g) s a b = g_E G s a b := fun s a b => g_E_congr h12 (fun i hi => e i (by omega)) s a b
  refine ⟨(am_uk (by omega)).trans (by rw [e 0 (by omega)]; exact r5), (am_uk (by omega)).trans (by rw [e 25 (by omega)]; exact r6), (am_uk (by omega)).trans (by rw [e 44 (by omega)]; exact r7), (am_uk (by omega)).trans (by rw [e 26 (by omega)]; exact r8), am_ui_e.trans (by show nI g = nI (if 43 = 43 then g else G 43); rw [if_pos rfl]), fun k hk => ?_, fun a b ha hb => ?_, fun p hp hb => ?_, fun a b ha hb => by rw [ee]; exact rn a b ha hb, fun a b ha hb => by rw [ee, e 25 (by omega)]; exact rc a b ha hb⟩
  · rw [e 0 (by omega)] at hk
    rw [am_uo (by omega), am_uo (by omega), e _ (by omega), e _ (by omega)]
    exact rw2 k hk
  · rw [am_uo (by omega), ew]
    exact rj a b ha hb
  · rw [e 26 (by omega)] at hb
    rw [am_uo (by omega), am_uo (by omega), e _ (by omega), e _ (by omega)]
    exact rs p hp hb
def g_new (G D u : Nat → Nat) : Nat → Nat := fun i => if i = 0 ∨ i = 25 ∨ i = 26 then D i else if i = 43 then G 43 else if i = 44 then 0 else if 27 ≤ i ∧ i < 35 then (if (D 26).testBit (i - 27) = true then D i else u i) else if 35 ≤ i ∧ i < 43 then (if (D 26).testBit (i - 35) = true then D i else u i) else if (1 ≤ i ∧ i < 1 + D 0) ∨ (13 ≤ i ∧ i < 13 + D 0) then D i else G i
theorem g_new_e {G D u : Nat → Nat} (h12 : D 0 ≤ 12) : g_new G D u 0 = D 0 ∧ g_new G D u 25 = D 25 ∧ g_new G D u 26 = D 26 ∧ g_new G D u 43 = G 43 ∧ g_new G D u 44 = 0 ∧ (∀ k, k < D 0 → g_new G D u (1 + k) = D (1 + k) ∧ g_new G D u (13 + k) = D (13 + k)) ∧ ∀ p, p < 8 → (D 26).testBit p = true → g_new G D u (27 + p) = D (27 + p) ∧ g_new G D u (35 + p) = D (35 + p) := by
  refine ⟨by unfold g_new; rw [if_pos (by omega)], by unfold g_new; rw [if_pos (by omega)], by unfold g_new; rw [if_pos (by omega)], by unfold g_new; rw [if_neg (by omega), if_pos rfl], by unfold g_new; rw [if_neg (by omega), if_neg (by omega), if_pos rfl], fun k hk => ⟨?_, ?_⟩, fun p hp hb => ⟨?_, ?_⟩⟩
  · unfold g_new
    rw [if_neg (by omega), if_neg (by omega), if_neg (by omega), if_neg (by omega), if_neg (by omega), if_pos (by omega)]
  · unfold g_new
    rw [if_neg (by omega), if_neg (by omega), if_neg (by omega), if_neg (by omega), if_neg (by omega), if_pos (by omega)]
  · unfold g_new
    rw [if_neg (by omega), if_neg (by omega), if_neg (by omega), if_pos (by omega), show 27 + p - 27 = p by omega, if_pos hb]
  · unfold g_new
    rw [if_neg (by omega), if_neg (by omega), if_neg (by omega), if_neg (by omega), if_pos (by omega), show 35 + p - 35 = p by omega, if_pos hb]
theorem WG_new {G D u : Nat → Nat} (h : WG D) (h43 : G 43 < 8) : WG (g_new G D u) := by
  obtain ⟨w1, w2, w3, w4, w5, w6, w7, w8, w9, w10, w11⟩ := h
  obtain ⟨n0, n25, n26, n43, n44, nw, ns⟩ := g_new_e (G := G) (u := u) w1
  refine ⟨by rw [n0]; exact w1, fun k hk => ?_, fun j k hjk hk => ?_, by rw [n25]; exact w4, fun k hk => ?_, by rw [n25]; exact w6, by rw [n26]; exact w7, fun p hp hb => ?_, by rw [n43]; exact h43, by rw [n44]; decide, fun k hk => ?_⟩
  · rw [n0] at hk
    rw [(nw k hk).1, (nw k hk).2]; exact w2 k hk
  · rw [n0] at hk
    rw [(nw k hk).1, (nw k hk).2, (nw j (by omega)).1, (nw j (by omega)).2]; exact w3 j k hjk hk
  · rw [n25] at hk
    rw [n0]; exact w5 k hk
  · rw [n26] at hb
    rw [(ns p hp hb).1, (ns p hp hb).2, n0]; exact w8 p hp hb
  · rw [n44] at hk; simp at hk
def o_pass : am_A → (Nat → Nat) → Int32 × am_A
  | (G, K, hk, tn, tt, R), u => if (p_all tn tt).1 = true then (nI ((p_all tn tt).2.2 0), (g_new G (p_all tn tt).2.2 u, K, hk, 0, tt, R)) else (-20 - nI (p_all tn tt).2.1, (G, K, hk, 0, tt, R))
def T_TP_parse : am_Sp := fun vs I L post => match vs with
  | [.ref o, .ref r] => o = 19 ∧ r = 13 ∧ ∃ tn tt, p_B tn tt ∧ TP I tn tt ∧ ((p_all tn tt).1 = true → ∀ (I2 : am_I) (L2 : am_J), PD I2 L2 (p_all tn tt).2.2 → PF I I2 L L2 → post (some (.int 0)) I2 L2) ∧ ((p_all tn tt).1 = false → ∀ (t : Nat) (I2 : am_I) (L2 : am_J), t ≤ tn → t = (p_all tn tt).2.1 → PF I I2 L L2 → post (some (.int (-20 - nI t))) I2 L2)
  | _ => False
def sp_TP_parse : Nat → am_Sp := fun i => match i with
  | 26 => T_RD_clear
  | 31 => T_TP_takeWays
  | 35 => T_TP_sign
  | 39 => T_TP_takeStones
  | _ => am_no
set_option maxRecDepth 100000 in
set_option maxHeartbeats 4000000 in
theorem ok_TP_parse : am_Ok am_SX sp_TP_parse false k_TP_parse 3 T_TP_parse := by
  intro vs I L post h
  unfold T_TP_parse at h
  split at h
  · rename_i o r
    obtain ⟨rfl, rfl, tn, tt, hB, hT, ha, hb⟩ := h
    refine ⟨Nat.le_of_ble_eq_true rfl, fun G2 hG2 => ?_⟩
    have ht := hB.1
    have fin0 : ∀ (I3 : am_I) (L3 : am_J) (t : Nat), PF I I3 L L3 → t ≤ tn → I3 19 2 = nI t → (p_all tn tt).1 = false → t = (p_all tn tt).2.1 → G2 46 [some (.ref 19), some (.ref 13), none] [] I3 L3 := by
      intro I3 L3 t hf h1 h2 h3 h4
      refine hG2 [] 100 46 _ _ _ _ (am_t rfl ?_)
      show post (some (.int (-20 - I3 19 2))) I3 L3
      rw [h2]
      exact hb h3 t I3 L3 h1 h4 hf
    have fin1 : ∀ (I3 : am_I) (L3 : am_J), PF I I3 L L3 → PD I3 L3 (p_all tn tt).2.2 → (p_all tn tt).1 = true → G2 42 [some (.ref 19), some (.ref 13), none] [] I3 L3 := by
      intro I3 L3 hf h1 h2
      exact hG2 [] 100 42 _ _ _ _ (am_f (by decide) (ha h2 I3 L3 h1 hf))
    clear ha hb
    have last : ∀ (I3 : am_I) (L3 : am_J) (t : Nat), TP I3 tn tt → t ≤ tn → I3 19 2 = nI t → (p_c tn tt t = -1 → G2 42 [some (.ref 19), some (.ref 13), none] [] (am_ui I3 19 2 (nI (p_at tn tt t))) L3) → (¬ p_c tn tt t = -1 → G2 46 [some (.ref 19), some (.ref 13), none] [] (am_ui I3 19 2 (nI (p_at tn tt t))) L3) → G2 34 [some (.ref 19), some (.ref 13), none] [] I3 L3 := by
      intro I3 L3 t hT3 ht3 h23 hy hn
      refine hG2 [(42, []), (46, [])] 100 34 _ _ _ _ (And.intro (rfl) (Exists.intro (tn) (Exists.intro (tt) (Exists.intro (t) (And.intro (hB) (And.intro (hT3) (And.intro (ht3) (And.intro (h23) (?_)))))))))
      by_cases z : p_c tn tt t = -1
      · exact am_nf z (hy z)
      · exact am_nt z (hn z)
    obtain ⟨g, hg⟩ := am_ex (I 13 9)
    refine hG2 [(34, []), (42, []), (46, [])] 100 0 _ _ _ _ (And.intro rfl (Exists.intro g (And.intro ((am_uo (by omega)).trans hg) (fun I1 L1 hR1 hI1 hL1 => ?_))))
    have hD1 : PD I1 L1 (g_0 0) := by
      refine ⟨WG_0 (by omega), rfl, rfl, ?_⟩
      have e : g_put (g_0 g) 43 0 = g_0 0 := by
        funext i
        simp only [g_put, g_0]
        split <;> rfl
      rw [← e]
      exact RC_goal (g := 0) (by simp [g_0]) hR1
    have i19 : I1 19 = am_ui I 19 2 0 19 := hI1 19 (by omega) (by omega)
    have hF1 : PF I I1 L L1 := ⟨fun a h => (hI1 a (by omega) (by omega)).trans (am_ui_o (by omega)), by rw [i19]; exact am_uk (by omega), fun a h => hL1 a h⟩
    have hT1 : TP I1 tn tt := TP_PF hT hF1
    have h21 : I1 19 2 = nI 0 := by rw [i19]; exact am_ui_e
    refine And.intro (rfl) (And.intro (rfl) (Exists.intro (tn) (Exists.intro (tt) (Exists.intro (0) (Exists.intro (g_0 0) (And.intro (hB) (And.intro (hT1) (And.intro (Nat.zero_le _) (And.intro (h21) (And.intro (hD1) (And.intro (rfl) (fun v t I3 L3 hT3 ht3 h23 hF3 hr => ?_))))))))))))
    have hF3 := PF_tr hF1 hF3
    unfold p_all at fin0 fin1
    generalize p_rep (p_way tn tt) tn tt 11 0 (g_0 0) = W at *
    obtain ⟨pt1, pt2, pt3⟩ := p_at_spec (tt := tt) ht _ t rfl ht3
    rcases hr with ⟨q1, rfl, q3, q4⟩ | ⟨q1, rfl, q3⟩ | ⟨q1, rfl, q3, q4⟩
    · rw [if_pos q1] at fin0 fin1
      have hcc := p_c_congr q4
      refine am_f (by decide) (And.intro (rfl) (Exists.intro (tn) (Exists.intro (tt) (Exists.intro (t) (And.intro (hB) (And.intro (hT3) (And.intro (ht3) (And.intro (h23) (?_)))))))))
      by_cases z : p_c tn tt t = 59
      · rw [if_pos (hcc ▸ z)] at fin0 fin1
        refine am_nf z (And.intro (rfl) (And.intro (rfl) (Exists.intro (tn) (Exists.intro (tt) (Exists.intro (p_at tn tt t) (Exists.intro (W.2.2) (And.intro (hB) (And.intro (TP_19 hT3) (And.intro (p_at_lt (by rw [z]; decide)) (And.intro (am_ui_e) (And.intro (PD_19 q3) (fun v2 t2 I4 L4 hT4 ht4 h24 hF4 hr2 => ?_))))))))))))
        have hF4 := PF_tr hF3 (PF_tr PF_19 hF4)
        rw [q4] at hr2
        generalize p_rep (p_stone tn tt) tn tt 7 (p_at tn tt W.2.1 + 1) W.2.2 = S at *
        rcases hr2 with ⟨y1, rfl, y3, y4⟩ | ⟨y1, rfl, y3⟩ | ⟨y1, rfl, y3, y4⟩
        · rw [if_pos y1] at fin0 fin1
          have hcy := p_c_congr y4
          refine am_f (by decide) (last I4 L4 t2 hT4 ht4 h24 (fun w => ?_) (fun w => ?_))
          · rw [if_pos (hcy ▸ w)] at fin1
            exact fin1 _ _ (PF_tr hF4 PF_19) (PD_19 y3) y1
          · rw [if_neg (fun x => w (hcy ▸ x))] at fin0
            exact fin0 _ _ _ (PF_tr hF4 PF_19) (p_at_spec ht _ t2 rfl ht4).2.1 am_ui_e rfl y4
        · rw [if_neg (by rw [y1]; decide)] at fin0
          exact am_t rfl (fin0 _ _ t2 hF4 ht4 h24 y1 y3)
        · rw [if_neg (by rw [y1]; decide)] at fin0
          refine am_f (by decide) (last I4 L4 t2 hT4 ht4 h24 (fun w => ?_) (fun w => ?_))
          · rw [y4] at w; exact absurd w (by decide)
          · exact fin0 _ _ _ (PF_tr hF4 PF_19) (p_at_spec ht _ t2 rfl ht4).2.1 am_ui_e y1 y3
      · rw [if_neg (fun x => z (hcc ▸ x))] at fin0 fin1
        refine am_nt z (last _ L3 (p_at tn tt t) (TP_19 hT3) pt2 am_ui_e (fun w => ?_) (fun w => ?_))
        · rw [p_c_at ht ht3] at w
          rw [if_pos (hcc ▸ w)] at fin1
          exact fin1 _ _ (PF_tr hF3 (PF_tr PF_19 PF_19)) (PD_19 (PD_19 q3)) q1
        · rw [p_c_at ht ht3] at w
          rw [if_neg (fun x => w (hcc ▸ x))] at fin0
          exact fin0 _ _ _ (PF_tr hF3 (PF_tr PF_19 PF_19)) (by rw [p_at_at ht ht3]; exact pt2) am_ui_e rfl ((p_at_at ht ht3).trans q4)
    · rw [if_neg (by rw [q1]; decide)] at fin0
      exact am_t rfl (fin0 _ _ t hF3 ht3 h23 q1 q3)
    · rw [if_neg (by rw [q1]; decide)] at fin0
      refine am_f (by decide) (And.intro (rfl) (Exists.intro (tn) (Exists.intro (tt) (Exists.intro (t) (And.intro (hB) (And.intro (hT3) (And.intro (ht3) (And.intro (h23) (?_)))))))))
      rw [q4]
      refine am_nt (by decide) (last _ L3 (p_at tn tt t) (TP_19 hT3) pt2 am_ui_e (fun w => ?_) (fun w => ?_))
      · rw [p_c_at ht ht3, q4] at w; exact absurd w (by decide)
      · exact fin0 _ _ _ (PF_tr hF3 (PF_tr PF_19 PF_19)) (by rw [p_at_at ht ht3]; exact pt2) am_ui_e q1 ((p_at_at ht ht3).trans q3)
  · exact h.elim
theorem am_flt : ∀ t, t < 101 → (-20 - nI t : Int32) < 0 := by decide +kernel
def T_RP_pass : am_Sp := fun vs I L post => match vs with
  | [.ref o] => o = 0 ∧ ∃ A, CR I L A ∧ ∀ (I2 : am_I) (L2 : am_J), (∀ u, CR I2 L2 (o_pass A u).2) → post (some (.int (o_pass A (fun _ => 0)).1)) I2 L2
  | _ => False
def sp_RP_pass : Nat → am_Sp := fun i => match i with
  | 125 => T_TP_parse
  | 129 => T_RD_become
  | _ => am_no
set_option maxRecDepth 100000 in
set_option maxHeartbeats 4000000 in
theorem ok_RP_pass : am_Ok am_SX sp_RP_pass false k_RP_pass 2 T_RP_pass := by
  intro vs I L post h
  unfold T_RP_pass at h
  split at h
  · rename_i o
    obtain ⟨rfl, A, hC, h⟩ := h
    refine ⟨Nat.le_of_ble_eq_true rfl, fun G2 hG2 => ?_⟩
    obtain ⟨G, K, hk, tn, tt, ln, sz, it⟩ := A
    obtain ⟨hV, hR, hKr, hk7, hT, ⟨V, hS⟩, hSh⟩ := id hC
    have hW : WG G := hV.1
    have h43 : G 43 < 8 := hW.2.2.2.2.2.2.2.2.1
    dsimp only [o_pass] at h
    have hCR : ∀ (I2 : am_I) (L2 : am_J) (G2 : Nat → Nat), WG G2 → RC I2 L2 1 G2 → I2 19 1 = 0 → (∀ a : Nat, (a = 0 ∨ (6 < a ∧ a < 13) ∨ 19 < a) → I2 a = I a) → (∀ a : Nat, a ≠ 1 → a ≠ 13 → L2 a = L a) → CR I2 L2 (G2, K, hk, 0, tt, ln, sz, it) := fun I2 L2 G2 w1 w2 w3 w4 w5 => ⟨⟨w1, hV.2.1, by omega, fun j hj => by omega, hV.2.2.2.2⟩, w2, RC_fr hKr (fun a h1 h2 => w4 a (by omega)) (w5 7 (by omega) (by omega)), by rw [w4 0 (by omega)]; exact hk7, ⟨w3, fun j hj => by omega⟩, ⟨V, SC_fr hS (by rw [w4 22 (by omega)]) (w4 24 (by omega)) (w5 23 (by omega) (by omega))⟩, SHc_fr hSh (fun a h1 h2 => w4 a (by omega)) (fun a h1 h2 => w5 a (by omega) (by omega))⟩
    refine hG2 [] 100 0 _ _ _ _ (And.intro (rfl) (And.intro (rfl) (Exists.intro (tn) (Exists.intro (tt) (And.intro (⟨hV.2.2.1, hV.2.2.2.1⟩) (And.intro (hT) (And.intro (fun hg I2 L2 hD hf => ?_) (fun hb t I2 L2 ht1 ht2 hf => ?_))))))))
    · have h : ∀ (I2 : am_I) (L2 : am_J), (∀ u, CR I2 L2 (g_new G (p_all tn tt).2.2 u, K, hk, 0, tt, ln, sz, it)) → post (some (.int (nI ((p_all tn tt).2.2 0)))) I2 L2 := fun I2 L2 q => by
        have := h I2 L2 (fun u => by rw [if_pos hg]; exact q u)
        rw [if_pos hg] at this
        exact this
      generalize (p_all tn tt).2.2 = D at *
      have hD12 := hD.1.1
      refine am_nt (by decide) (And.intro (Or.inl ⟨rfl, rfl⟩) (Exists.intro (g_put D 43 (G 43)) (And.intro ?_ (And.intro ?_ (fun I3 L3 hR3 hf3 => ?_)))))
      · exact hD12
      · show RC (am_ui (am_ui I2 19 1 0) 13 9 (am_ui I2 19 1 0 1 9)) L2 13 (g_put D 43 (G 43))
        have e1 : am_ui I2 19 1 0 1 9 = nI (G 43) := by rw [am_uo (by omega), hf.1 1 (by omega)]; exact hR.2.2.2.2.1
        rw [e1]
        have := RC_goal (g := G 43) hD12 hD.2.2.2
        rw [am_ui_ui] at this
        exact RC_fr this (fun a h1 h2 => am_ui_row (am_ui_o (by omega))) rfl
      · have hR3b : ∀ u, RC I3 L3 1 (g_new G D u) := fun u => by
          obtain ⟨n0, n25, n26, n43, n44, nw, ns⟩ := g_new_e (G := G) (u := u) hD12
          have e : ∀ i, i ≠ 43 → g_put D 43 (G 43) i = D i := fun i hi => if_neg hi
          have e0 := e 0 (by omega)
          have e26 := e 26 (by omega)
          refine RC_ext hR3 (n0.trans e0.symm) (n25.trans (e 25 (by omega)).symm) (n26.trans e26.symm) (n43.trans (by show G 43 = if 43 = 43 then G 43 else D 43; rw [if_pos rfl])) (n44.trans (by rw [e 44 (by omega), hD.2.2.1])) (fun k hk => ?_) (fun p hp hb => ?_)
          · rw [e0] at hk
            rw [e _ (by omega), e _ (by omega)]; exact nw k hk
          · rw [e26] at hb
            rw [e _ (by omega), e _ (by omega)]; exact ns p hp hb
        show post (some (.int (I3 1 5))) I3 L3
        have e5 : I3 1 5 = nI (D 0) := hR3.1
        rw [e5]
        have f3 : ∀ a : Nat, (a < 1 ∨ 6 < a) → I3 a = am_ui (am_ui I2 19 1 0) 13 9 (am_ui I2 19 1 0 1 9) a := fun a ha => hf3.1 a (show a < 1 ∨ 1 + 5 < a by omega)
        refine h I3 L3 (fun u => hCR I3 L3 _ (WG_new hD.1 h43) (hR3b u) ?_ (fun a ha => ?_) (fun a h1 h13 => ?_))
        · rw [f3 19 (by omega), am_ui_o (by omega)]; exact am_ui_e
        · rw [f3 a (by omega), am_ui_o (by omega), am_ui_o (by omega)]; exact hf.1 a (by omega)
        · rw [hf3.2 a h1]; exact hf.2.2 a h13
    · have hnb : ¬ (p_all tn tt).1 = true := by rw [hb]; decide
      have h : ∀ (I2 : am_I) (L2 : am_J), (∀ u : Nat → Nat, CR I2 L2 (G, K, hk, 0, tt, ln, sz, it)) → post (some (.int (-20 - nI t))) I2 L2 := fun I2 L2 q => by
        have := h I2 L2 (fun u => by rw [if_neg hnb]; exact q u)
        rw [if_neg hnb, ← ht2] at this
        exact this
      refine am_nf (am_flt t (by have := hV.2.2.1; omega)) ?_
      show post (some (.int (-20 - nI t))) (am_ui I2 19 1 0) L2
      refine h _ _ (fun u => hCR _ _ G hW (RC_fr hR (fun a h1 h2 => (am_ui_o (by omega)).trans (hf.1 a (by omega))) (hf.2.2 1 (by omega))) am_ui_e (fun a ha => (am_ui_o (by omega)).trans (hf.1 a (by omega))) (fun a h1 h13 => hf.2.2 a h13))
  · exact h.elim
