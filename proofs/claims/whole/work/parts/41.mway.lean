/-! THE REFERENCE: the simple calls -/
theorem nI_m1lt {n : Nat} (h : n ≤ 12) : nI n - 1 < 0 ↔ n = 0 := by
  cases n with
  | zero => exact ⟨fun _ => rfl, fun _ => by decide⟩
  | succ n =>
    rw [nI_pred]
    exact ⟨fun z => absurd z (nI_pos (by omega)), fun z => by omega⟩
theorem MR_w {I I2 : am_I} {L : am_J} {G G' : Nat → Nat} {c : Nat} {R : (Nat → Nat) × Bool × Nat × (Nat → Nat) × (Nat → Int32) × (Nat → Nat) × (Nat → Nat → Int64)} (h : MR I L (G, R) c) (hW : WG G') (hR : ∀ i, i < 45 → I2 1 i = nI (G' i)) (h1 : ∀ i, 45 ≤ i → I2 1 i = I 1 i) (hI : ∀ a : Nat, a ≠ 1 → I2 a = I a) : MR I2 L (G', R) c := by
  obtain ⟨K, hk, tn, tt, ln, sz, it⟩ := R
  obtain ⟨hV, hM, hK, hk1, htn, htt, hMS, hSh⟩ := h
  refine ⟨⟨hW, hV.2⟩, fun i hi => by rw [Nat.zero_add]; exact hR i hi, fun q i hi => by rw [h1 _ (by omega)]; exact hK q i hi, by rw [hI 0 (by omega)]; exact hk1, by rw [hI 0 (by omega)]; exact htn, fun j hj => by rw [hI 2 (by omega)]; exact htt j hj, ⟨by rw [hI 0 (by omega)]; exact hMS.1, fun s hs => by rw [hI 10 (by omega)]; exact hMS.2 s hs⟩, fun s hs => ?_⟩
  rw [hI 13 (by omega), hI 14 (by omega)]
  exact hSh s hs
theorem am_ix {a k : Nat} (h : a + k < 2147483647) : (nI a + nI k).toNatClampNeg = a + k := by rw [nI_add, nI_clamp (by omega)]
theorem am_ixv {a k : Nat} (h : a + k < 90) : vp_in (nI a + nI k) 90 := by rw [nI_add]; exact am_vin h rfl
def T_MD_way : am_Sp := fun vs I L post => match vs with
  | [.ref o, .int a, .int b, .int d] => o = 0 ∧ ∃ A c, MR I L A c ∧ c + 4096 ≤ 1073741824 ∧ ∀ (I2 : am_I) (L2 : am_J) (c2 : Nat), c2 ≤ c + 4096 → MR I2 L2 (o_way A a b d).2 c2 → post (some (.int (o_way A a b d).1)) I2 L2
  | _ => False
def sp_MD_way : Nat → am_Sp := fun i => match i with
  | 66 => T_MD_isPlace
  | 70 => T_MD_between
  | 74 => T_MD_ones
  | _ => am_no
set_option maxRecDepth 100000 in
set_option maxHeartbeats 4000000 in
theorem ok_MD_way : am_Ok am_SM sp_MD_way false k_MD_way 5 T_MD_way := by
  intro vs I L post h
  unfold T_MD_way at h
  split at h
  · rename_i o a b d
    obtain ⟨rfl, A, c, hC, hc, h⟩ := h
    refine ⟨Nat.le_of_ble_eq_true rfl, fun G2 hG2 => ?_⟩
    obtain ⟨G, K, hk, tn, tt, ln, sz, it⟩ := A
    obtain ⟨hV, hM, hK, hk1, htn, htt, hMS, hSh⟩ := id hC
    have hW : WG G := hV.1
    have h12 := hW.1
    dsimp only [o_way] at h
    have w : ∀ i, i < 45 → I 1 i = nI (G i) := RM_i hM
    by_cases ha : 0 ≤ a ∧ a < 8
    · by_cases hb : 0 ≤ b ∧ b < 8
      · by_cases hab : a = b
        · rw [if_pos (Or.inr (Or.inr hab))] at h
          exact hG2 [] 100 0 _ _ _ _ (am_f (am_bp ha) (am_f (am_bp hb) (am_nf hab (h I L c (by omega) hC))))
        · rw [if_neg (by rintro (q | q | q); exact q ha; exact q hb; exact hab q)] at h
          obtain ⟨x, hx, rfl⟩ := am_rng (n := 8) (by omega) ha.1 ha.2
          obtain ⟨y, hy, rfl⟩ := am_rng (n := 8) (by omega) hb.1 hb.2
          have hxy : x ≠ y := fun q => hab (by rw [q])
          have hle := g_wy_le G x y
          rw [nI_clamp (by omega), nI_clamp (by omega)] at h
          refine hG2 [(41, [])] 100 0 _ _ _ _ (am_f (am_bp ha) (am_f (am_bp hb) (am_nt hab (And.intro (rfl) (Exists.intro (G) (Exists.intro (x) (Exists.intro (y) (And.intro (hW) (And.intro (hM) (And.intro (hx) (And.intro (hy) (And.intro (rfl) (And.intro (rfl) (?_)))))))))))))) 
          by_cases hw : g_wy G x y = 0
          · rw [if_neg (fun q => q hw)] at h
            refine am_t ((nI_m1lt (by omega)).mpr hw) (And.intro (am_vin (n := 0) (by decide) rfl) ?_)
            show G2 41 [some (.ref 0), some (.int (nI x)), some (.int (nI y)), some (.int d), some (.int (I 1 0))] [] I L
            rw [w 0 (by omega)]
            by_cases h0 : G 0 = 12
            · rw [if_pos (Or.inl h0)] at h
              exact hG2 [] 100 41 _ _ _ _ (am_t (by rw [h0]; rfl) (h I L c (by omega) hC))
            · have n0 : ¬ nI (G 0) = 12 := fun z => h0 ((nI_eq (b := 12) (by omega) (by omega)).mp z)
              have go : ¬ (¬ d = 0 ∧ g_pc (G 25) 12 = 6) → G2 70 [some (.ref 0), some (.int (nI x)), some (.int (nI y)), some (.int d), some (.int (nI (G 0)))] [] I L := by
                intro h6
                rw [if_neg (by rintro (q | q); exact h0 q; exact h6 q)] at h
                have hWA := WG_add (d := !decide (d = 0)) hW hx hy hxy hw (by omega) (fun z => by
                  have z1 : ¬ d = 0 := by simpa using z
                  have := hW.2.2.2.2.2.1
                  have : ¬ g_pc (G 25) 12 = 6 := fun q => h6 ⟨z1, q⟩
                  omega)
                have fin : ∀ X : am_I, X = am_ui (am_ui (am_ui (am_ui I 1 (1 + G 0) (nI (if x < y then x else y))) 1 (13 + G 0) (nI (if x < y then y else x))) 1 25 (nI (if (!decide (d = 0)) = true then g_set (G 25) (G 0) else G 25))) 1 0 (nI (G 0 + 1)) → post (some (.int (nI (G 0)))) X L := by
                  intro X hX
                  have e : ∀ i, g_add G x y (!decide (d = 0)) i = if i = 0 then G 0 + 1 else if i = 1 + G 0 then (if x < y then x else y) else if i = 13 + G 0 then (if x < y then y else x) else if i = 25 then (if (!decide (d = 0)) = true then g_set (G 25) (G 0) else G 25) else G i := fun i => rfl
                  generalize (if x < y then x else y) = lo at hX e
                  generalize (if x < y then y else x) = hi at hX e
                  generalize (if (!decide (d = 0)) = true then g_set (G 25) (G 0) else G 25) = dd at hX e
                  refine h X L c (by omega) (MR_w hC hWA (fun i hi45 => ?_) (fun i hi45 => ?_) (fun a ha => ?_))
                  · rw [hX, e]
                    by_cases i0 : i = 0
                    · subst i0; rw [am_ui_e, if_pos rfl]
                    · rw [am_uk i0, if_neg i0]
                      by_cases i25 : i = 25
                      · subst i25
                        rw [am_ui_e, if_neg (by omega), if_neg (by omega), if_pos rfl]
                      · rw [am_uk i25]
                        by_cases i13 : i = 13 + G 0
                        · subst i13
                          rw [am_ui_e, if_neg (by omega), if_pos rfl]
                        · rw [am_uk i13]
                          by_cases i1 : i = 1 + G 0
                          · subst i1
                            rw [am_ui_e, if_pos rfl]
                          · rw [am_uk i1, if_neg i1, if_neg i13, if_neg i25]
                            exact w i hi45
                  · rw [hX, am_uk (by omega), am_uk (by omega), am_uk (by omega), am_uk (by omega)]
                  · rw [hX, am_ui_o ha, am_ui_o ha, am_ui_o ha, am_ui_o ha]
                have i1 : ((1 : Int32) + nI (G 0)).toNatClampNeg = 1 + G 0 := am_ix (a := 1) (by omega)
                have i13 : ((13 : Int32) + nI (G 0)).toNatClampNeg = 13 + G 0 := am_ix (a := 13) (by omega)
                have v1 : vp_in ((1 : Int32) + nI (G 0)) 90 := am_ixv (a := 1) (by omega)
                have v13 : vp_in ((13 : Int32) + nI (G 0)) 90 := am_ixv (a := 13) (by omega)
                have v25 : vp_in (25 : Int32) 90 := am_vin (n := 25) (by decide) rfl
                have v0 : vp_in (0 : Int32) 90 := am_vin (n := 0) (by decide) rfl
                have c25 : (25 : Int32).toNatClampNeg = 25 := rfl
                have c0 : (0 : Int32).toNatClampNeg = 0 := rfl
                have rd25 : ∀ u v : Int32, am_ui (am_ui I 1 (1 + G 0) u) 1 (13 + G 0) v 1 25 = nI (G 25) := fun u v => by rw [am_uk (by omega), am_uk (by omega)]; exact w 25 (by omega)
                have rd0 : ∀ u v t : Int32, am_ui (am_ui (am_ui I 1 (1 + G 0) u) 1 (13 + G 0) v) 1 25 t 1 0 = nI (G 0) := fun u v t => by rw [am_uk (by omega), am_uk (by omega), am_uk (by omega)]; exact w 0 (by omega)
                by_cases hlt : x < y
                · have hl2 : nI x < nI y := nI_lt hlt (by omega)
                  by_cases hd : d = 0
                  · refine hG2 [] 100 70 _ _ _ _ (am_nf hl2 (And.intro v1 (am_nf hl2 (And.intro v13 (And.intro v25 (am_t hd (And.intro v25 (And.intro v0 (And.intro v0 (fin _ ?_))))))))))
                    rw [i1, i13, c25, c0, rd25, rd0, nI_1, if_pos hlt, if_pos hlt]
                    simp [hd]
                  · refine hG2 [] 100 70 _ _ _ _ (am_nf hl2 (And.intro v1 (am_nf hl2 (And.intro v13 (And.intro v25 (am_f hd (And.intro v25 (And.intro v0 (And.intro v0 (fin _ ?_))))))))))
                    rw [i1, i13, c25, c0, rd25, g_set_I _ (by omega), rd0, nI_1, if_pos hlt, if_pos hlt]
                    simp [hd]
                · have hl2 : ¬ nI x < nI y := nI_nlt (by omega) (by omega)
                  by_cases hd : d = 0
                  · refine hG2 [] 100 70 _ _ _ _ (am_nt hl2 (And.intro v1 (am_nt hl2 (And.intro v13 (And.intro v25 (am_t hd (And.intro v25 (And.intro v0 (And.intro v0 (fin _ ?_))))))))))
                    rw [i1, i13, c25, c0, rd25, rd0, nI_1, if_neg hlt, if_neg hlt]
                    simp [hd]
                  · refine hG2 [] 100 70 _ _ _ _ (am_nt hl2 (And.intro v1 (am_nt hl2 (And.intro v13 (And.intro v25 (am_f hd (And.intro v25 (And.intro v0 (And.intro v0 (fin _ ?_))))))))))
                    rw [i1, i13, c25, c0, rd25, g_set_I _ (by omega), rd0, nI_1, if_neg hlt, if_neg hlt]
                    simp [hd]
              by_cases hd : d = 0
              · exact hG2 [(70, [])] 100 41 _ _ _ _ (am_f n0 (am_t hd (go (fun q => q.1 hd))))
              · refine hG2 [(70, [])] 100 41 _ _ _ _ (am_f n0 (am_f hd (And.intro (am_vin (n := 25) (by decide) rfl) (Exists.intro (G 25) (And.intro (w 25 (by omega)) ?_)))))
                have hp6 := hW.2.2.2.2.2.1
                by_cases h6 : g_pc (G 25) 12 = 6
                · rw [if_pos (Or.inr ⟨hd, h6⟩)] at h
                  exact am_nf (by rw [h6]; rfl) (h I L c (by omega) hC)
                · exact am_nt (fun z => h6 ((nI_eq (b := 6) (by omega) (by omega)).mp z)) (go (fun q => h6 q.2))
          · rw [if_pos hw] at h
            exact am_f (fun z => hw ((nI_m1lt (by omega)).mp z)) (h I L c (by omega) hC)
      · rw [if_pos (Or.inr (Or.inl hb))] at h
        exact hG2 [] 100 0 _ _ _ _ (am_f (am_bp ha) (am_t (am_bn hb) (h I L c (by omega) hC)))
    · rw [if_pos (Or.inl ha)] at h
      exact hG2 [] 100 0 _ _ _ _ (am_t (am_bn ha) (h I L c (by omega) hC))
  · exact h.elim
