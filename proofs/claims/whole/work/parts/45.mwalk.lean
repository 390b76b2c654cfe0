/-! THE REFERENCE: whole journeys -/
def m_J (I : am_I) (G : Nat → Nat) (kind snow stones f : Nat) : Prop := I 0 15 = nI (g_T G kind snow stones f) ∧ I 0 16 = nI (g_end G (g_S G kind snow stones f) (g_T G kind snow stones f)) ∧ I 0 17 = nI (g_S G kind snow stones f (g_T G kind snow stones f)).1 ∧ I 0 18 = nI (g_S G kind snow stones f (g_T G kind snow stones f)).2 ∧ ST I (g_S G kind snow stones f) (g_T G kind snow stones f)
def T_MD_goNow : am_Sp := fun vs I L post => match vs with
  | [.ref o, .int x, .int y] => o = 0 ∧ ∃ A c kind f, kind < 4 ∧ f < 8 ∧ MR I L A c ∧ c + 1 ≤ 1073741824 ∧ x = nI kind ∧ y = nI f ∧ ∀ I2 : am_I, m_J I2 A.1 kind (A.1 44) (A.1 26) f → MR I2 L A (c + 1) → post none I2 L
  | _ => False
def sp_MD_goNow : Nat → am_Sp := fun i => match i with
  | 158 => T_MD_layWays
  | 161 => T_MD_go
  | _ => am_no
set_option maxRecDepth 100000 in
theorem ok_MD_goNow : am_Ok am_SM sp_MD_goNow false k_MD_goNow 3 T_MD_goNow := by
  intro vs I L post h
  unfold T_MD_goNow at h
  split at h
  · rename_i o x y
    obtain ⟨rfl, A, c, kind, f, hk4, hf8, hC, hc, rfl, rfl, h⟩ := h
    refine ⟨Nat.le_of_ble_eq_true rfl, fun G2 hG2 => ?_⟩
    obtain ⟨G, K, hk, tn, tt, ln, sz, it⟩ := A
    obtain ⟨hV, hM, hK, hk1, htn, htt, hMS, hSh⟩ := id hC
    have hX : JX G kind (G 26) f := JX_of hV.1 hk4 hf8
    refine hG2 [] 100 0 _ _ _ _ (And.intro (rfl) (Exists.intro (G) (And.intro (hV.1) (And.intro (hM) (fun I1 h7 ho => ?_)))))
    have e1 : I1 1 = I 1 := ho 1 (by omega)
    have w : ∀ i : Nat, i < 45 → I1 1 i = nI (G i) := fun i hi => by rw [e1]; exact RM_i hM i hi
    refine And.intro (am_vin (n := 44) (by decide) rfl) (And.intro (am_vin (n := 26) (by decide) rfl) (And.intro (rfl) (Exists.intro (G) (Exists.intro (kind) (Exists.intro (f) (Exists.intro (G 44) (Exists.intro (G 26) (Exists.intro (c) (And.intro (hX) (And.intro (RM_fr hM e1) (And.intro (rfl) (And.intro (rfl) (And.intro (w 44 (by omega)) (And.intro (w 26 (by omega)) (And.intro (fun a b ha hb => h7 a b ha hb) (And.intro (⟨by rw [ho 0 (by omega)]; exact hMS.1, fun s hs => by rw [ho 10 (by omega)]; exact hMS.2 s hs⟩) (And.intro (by omega) (fun n I2 n1 n2 h15 h16 h17 h18 hst hms hgf => ?_))))))))))))))))))
    have e := g_T_of hX n1 n2
    subst e
    have hfr : ∀ a : Nat, a ≠ 0 → a ≠ 7 → a ≠ 8 → a ≠ 9 → a ≠ 10 → a ≠ 11 → a ≠ 12 → I2 a = I a := fun a a0 a7 a8 a9 a10 _ _ => (hgf.1 a a0 a8 a9 a10).trans (ho a a7)
    exact h I2 ⟨h15, h16, h17, h18, hst⟩ (MR_GF hC hfr ⟨(hgf.2 1 (by omega) (by omega) (by omega) (by omega) (by omega)).trans (by rw [ho 0 (by omega)]), (hgf.2 3 (by omega) (by omega) (by omega) (by omega) (by omega)).trans (by rw [ho 0 (by omega)])⟩ hms)
  · exact h.elim
def T_MD_walk : am_Sp := fun vs I L post => match vs with
  | [.ref o, .int x, .int y, .int z] => o = 0 ∧ ∃ A c, MR I L A c ∧ c + 4096 ≤ 1073741824 ∧ ∀ (I2 : am_I) (L2 : am_J) (c2 : Nat), c2 ≤ c + 4096 → MR I2 L2 (o_walk A x y z).2 c2 → post (some (.int (o_walk A x y z).1)) I2 L2
  | _ => False
def sp_MD_walk : Nat → am_Sp := fun i => match i with
  | 62 => T_MD_in
  | 66 => T_MD_isPlace
  | 165 => T_MD_isKind
  | 170 => T_MD_goNow
  | _ => am_no
set_option maxRecDepth 100000 in
set_option maxHeartbeats 4000000 in
theorem ok_MD_walk : am_Ok am_SM sp_MD_walk false k_MD_walk 4 T_MD_walk := by
  intro vs I L post h
  unfold T_MD_walk at h
  split at h
  · rename_i o x y z
    obtain ⟨rfl, A, c, hC, hc, h⟩ := h
    refine ⟨Nat.le_of_ble_eq_true rfl, fun G2 hG2 => ?_⟩
    obtain ⟨G, K, hk, tn, tt, ln, sz, it⟩ := A
    obtain ⟨hV, hM, hK, hk1, htn, htt, hMS, hSh⟩ := id hC
    have hW : WG G := hV.1
    have h12 := hW.1
    dsimp only [o_walk] at h
    by_cases hx : 0 ≤ x ∧ x < 4
    · by_cases hy : 0 ≤ y ∧ y < 8
      · by_cases hz : 0 ≤ z ∧ z < 3
        · rw [if_neg (by rintro (q | q | q); exact q hx; exact q hy; exact q hz)] at h
          obtain ⟨kind, hk4, rfl⟩ := am_rng (n := 4) (by omega) hx.1 hx.2
          obtain ⟨f, hf8, rfl⟩ := am_rng (n := 8) (by omega) hy.1 hy.2
          rw [nI_clamp (by omega), nI_clamp (by omega)] at h
          refine hG2 [] 100 0 _ _ _ _ (am_f (am_bp hx) (am_f (am_bp hy) (am_nt (am_bp ((m_in (hi := 2) (hi1 := 3) rfl rfl).mpr hz)) (And.intro (rfl) (Exists.intro ((G, K, hk, tn, tt, ln, sz, it)) (Exists.intro (c) (Exists.intro (kind) (Exists.intro (f) (And.intro (hk4) (And.intro (hf8) (And.intro (hC) (And.intro (by omega) (And.intro (rfl) (And.intro (rfl) (fun I2 hj hC2 => ?_)))))))))))))))
          obtain ⟨j15, j16, j17, j18, jst⟩ := hj
          dsimp only at j15 j16 j17
          by_cases z0 : z = 0
          · rw [if_pos z0] at h
            refine am_nf z0 ?_
            show post (some (.int (I2 0 15))) I2 L
            rw [j15]; exact h I2 L (c + 1) (by omega) hC2
          · rw [if_neg z0] at h
            refine am_nt z0 ?_
            by_cases z1 : z = 1
            · rw [if_pos z1] at h
              refine am_nf z1 ?_
              show post (some (.int (I2 0 16))) I2 L
              rw [j16]; exact h I2 L (c + 1) (by omega) hC2
            · rw [if_neg z1] at h
              refine am_nt z1 ?_
              show post (some (.int (I2 0 17))) I2 L
              rw [j17]; exact h I2 L (c + 1) (by omega) hC2
        · rw [if_pos (Or.inr (Or.inr hz))] at h
          exact hG2 [] 100 0 _ _ _ _ (am_f (am_bp hx) (am_f (am_bp hy) (am_nf (am_bn (fun q => hz ((m_in (hi := 2) (hi1 := 3) rfl rfl).mp q))) (h I L c (by omega) hC))))
      · rw [if_pos (Or.inr (Or.inl hy))] at h
        exact hG2 [] 100 0 _ _ _ _ (am_f (am_bp hx) (am_t (am_bn hy) (h I L c (by omega) hC)))
    · rw [if_pos (Or.inl hx)] at h
      exact hG2 [] 100 0 _ _ _ _ (am_t (am_bn hx) (h I L c (by omega) hC))
  · exact h.elim
def T_MD_at : am_Sp := fun vs I L post => match vs with
  | [.ref o, .int x, .int y, .int z] => o = 0 ∧ ∃ A c, MR I L A c ∧ c + 4096 ≤ 1073741824 ∧ ∀ (I2 : am_I) (L2 : am_J) (c2 : Nat), c2 ≤ c + 4096 → MR I2 L2 (o_at A x y z).2 c2 → post (some (.int (o_at A x y z).1)) I2 L2
  | _ => False
def sp_MD_at : Nat → am_Sp := fun i => match i with
  | 62 => T_MD_in
  | 66 => T_MD_isPlace
  | 165 => T_MD_isKind
  | 170 => T_MD_goNow
  | _ => am_no
set_option maxRecDepth 100000 in
set_option maxHeartbeats 4000000 in
theorem ok_MD_at : am_Ok am_SM sp_MD_at false k_MD_at 4 T_MD_at := by
  intro vs I L post h
  unfold T_MD_at at h
  split at h
  · rename_i o x y z
    obtain ⟨rfl, A, c, hC, hc, h⟩ := h
    refine ⟨Nat.le_of_ble_eq_true rfl, fun G2 hG2 => ?_⟩
    obtain ⟨G, K, hk, tn, tt, ln, sz, it⟩ := A
    obtain ⟨hV, hM, hK, hk1, htn, htt, hMS, hSh⟩ := id hC
    have hW : WG G := hV.1
    have h12 := hW.1
    dsimp only [o_at] at h
    by_cases hx : 0 ≤ x ∧ x < 4
    · by_cases hy : 0 ≤ y ∧ y < 8
      · by_cases hz : 0 ≤ z ∧ z < 100
        · have hz0 : ¬ z < 0 := Int32.not_lt.mpr hz.1
          have hz9 : ¬ 99 < z := fun q => by
            have a := Int32.lt_iff_toInt_lt.mp q
            have b := Int32.lt_iff_toInt_lt.mp hz.2
            have e1 : (99 : Int32).toInt = 99 := rfl
            have e2 : (100 : Int32).toInt = 100 := rfl
            omega
          rw [if_neg (by rintro (q | q | q | q); exact q hx; exact q hy; exact hz0 q; exact hz9 q)] at h
          obtain ⟨kind, hk4, rfl⟩ := am_rng (n := 4) (by omega) hx.1 hx.2
          obtain ⟨f, hf8, rfl⟩ := am_rng (n := 8) (by omega) hy.1 hy.2
          obtain ⟨n, hn, rfl⟩ := am_rng (n := 100) (by omega) hz.1 hz.2
          have cn : (nI n).toNatClampNeg = n := nI_clamp (by omega)
          rw [nI_clamp (n := kind) (by omega), nI_clamp (n := f) (by omega), cn] at h
          refine hG2 [] 100 0 _ _ _ _ (am_f (am_bp hx) (am_f (am_bp hy) (am_nt (am_bp ((m_in (hi := 99) (hi1 := 100) rfl rfl).mpr hz)) (And.intro (rfl) (Exists.intro ((G, K, hk, tn, tt, ln, sz, it)) (Exists.intro (c) (Exists.intro (kind) (Exists.intro (f) (And.intro (hk4) (And.intro (hf8) (And.intro (hC) (And.intro (by omega) (And.intro (rfl) (And.intro (rfl) (fun I2 hj hC2 => ?_)))))))))))))))
          obtain ⟨j15, j16, j17, j18, jst⟩ := hj
          dsimp only at j15 jst
          have hT := (g_T_spec (snow := G 44) (JX_of hW hk4 hf8)).1
          by_cases hlt : g_T G kind (G 44) (G 26) f < n
          · rw [if_pos hlt] at h
            refine am_nf ?_ (h I2 L (c + 1) (by omega) hC2)
            show I2 0 15 < nI n
            rw [j15]; exact nI_lt hlt (by omega)
          · rw [if_neg hlt] at h
            refine am_nt ?_ (And.intro (am_vin hn rfl) ?_)
            · show ¬ I2 0 15 < nI n
              rw [j15]; exact nI_nlt (by omega) (by omega)
            · show post (some (.int (I2 9 (nI n).toNatClampNeg))) I2 L
              rw [cn, jst n (by omega) hn]
              exact h I2 L (c + 1) (by omega) hC2
        · have hz2 : z < 0 ∨ 99 < z := by
            by_cases q : z < 0
            · exact Or.inl q
            · right
              apply Classical.byContradiction
              intro q2
              apply hz
              refine ⟨Int32.not_lt.mp q, ?_⟩
              have a : ¬ (99 : Int32).toInt < z.toInt := fun w => q2 (Int32.lt_iff_toInt_lt.mpr w)
              rw [Int32.lt_iff_toInt_lt]
              have e1 : (99 : Int32).toInt = 99 := rfl
              have e2 : (100 : Int32).toInt = 100 := rfl
              omega
          rw [if_pos (Or.inr (Or.inr hz2))] at h
          exact hG2 [] 100 0 _ _ _ _ (am_f (am_bp hx) (am_f (am_bp hy) (am_nf (am_bn (fun q => hz ((m_in (hi := 99) (hi1 := 100) rfl rfl).mp q))) (h I L c (by omega) hC))))
      · rw [if_pos (Or.inr (Or.inl hy))] at h
        exact hG2 [] 100 0 _ _ _ _ (am_f (am_bp hx) (am_t (am_bn hy) (h I L c (by omega) hC)))
    · rw [if_pos (Or.inl hx)] at h
      exact hG2 [] 100 0 _ _ _ _ (am_t (am_bn hx) (h I L c (by omega) hC))
  · exact h.elim
def T_MD_shut : am_Sp := fun vs I L post => match vs with
  | [.ref o, .int x, .int y] => o = 0 ∧ ∃ A c, MR I L A c ∧ c + 4096 ≤ 1073741824 ∧ ∀ (I2 : am_I) (L2 : am_J) (c2 : Nat), c2 ≤ c + 4096 → MR I2 L2 (o_shut A x y).2 c2 → post (some (.int (o_shut A x y).1)) I2 L2
  | _ => False
def sp_MD_shut : Nat → am_Sp := fun i => match i with
  | 66 => T_MD_isPlace
  | 165 => T_MD_isKind
  | 170 => T_MD_goNow
  | _ => am_no
set_option maxRecDepth 100000 in
set_option maxHeartbeats 4000000 in
theorem ok_MD_shut : am_Ok am_SM sp_MD_shut false k_MD_shut 3 T_MD_shut := by
  intro vs I L post h
  unfold T_MD_shut at h
  split at h
  · rename_i o x y
    obtain ⟨rfl, A, c, hC, hc, h⟩ := h
    refine ⟨Nat.le_of_ble_eq_true rfl, fun G2 hG2 => ?_⟩
    obtain ⟨G, K, hk, tn, tt, ln, sz, it⟩ := A
    obtain ⟨hV, hM, hK, hk1, htn, htt, hMS, hSh⟩ := id hC
    have hW : WG G := hV.1
    have h12 := hW.1
    dsimp only [o_shut] at h
    by_cases hx : 0 ≤ x ∧ x < 4
    · by_cases hy : 0 ≤ y ∧ y < 8
      · rw [if_neg (by rintro (q | q); exact q hx; exact q hy)] at h
        obtain ⟨kind, hk4, rfl⟩ := am_rng (n := 4) (by omega) hx.1 hx.2
        obtain ⟨f, hf8, rfl⟩ := am_rng (n := 8) (by omega) hy.1 hy.2
        rw [nI_clamp (by omega), nI_clamp (by omega)] at h
        refine hG2 [] 100 0 _ _ _ _ (am_f (am_bp hx) (am_nt (am_bp hy) (And.intro (rfl) (Exists.intro ((G, K, hk, tn, tt, ln, sz, it)) (Exists.intro (c) (Exists.intro (kind) (Exists.intro (f) (And.intro (hk4) (And.intro (hf8) (And.intro (hC) (And.intro (by omega) (And.intro (rfl) (And.intro (rfl) (fun I2 hj hC2 => ?_))))))))))))))
        show post (some (.int (I2 0 18))) I2 L
        rw [hj.2.2.2.1]
        exact h I2 L (c + 1) (by omega) hC2
      · rw [if_pos (Or.inr hy)] at h
        exact hG2 [] 100 0 _ _ _ _ (am_f (am_bp hx) (am_nf (am_bn hy) (h I L c (by omega) hC)))
    · rw [if_pos (Or.inl hx)] at h
      exact hG2 [] 100 0 _ _ _ _ (am_t (am_bn hx) (h I L c (by omega) hC))
  · exact h.elim
