/-! how the cells of a road change with its row of numbers -/
set_option maxRecDepth 100000 in
theorem f_bc_nI : ∀ m, m < 4096 → f_bc (nI m) = nI (g_pc m 12) := by decide +kernel
theorem g_w_congr {G G' : Nat → Nat} (a b : Nat) : ∀ n, (∀ k, k < n → G' (1 + k) = G (1 + k) ∧ G' (13 + k) = G (13 + k)) → g_w G' a b n = g_w G a b n := by
  intro n
  induction n with
  | zero => intro _; rfl
  | succ n ih =>
    intro h
    have e : g_j G' a b n = g_j G a b n := by simp only [g_j, (h n (by omega)).1, (h n (by omega)).2]
    simp only [g_w, e, ih (fun k hk => h k (by omega))]
theorem g_wy_congr {G G' : Nat → Nat} (h12 : G 0 ≤ 12) (h : ∀ i, i < 25 → G' i = G i) (a b : Nat) : g_wy G' a b = g_wy G a b := by
  unfold g_wy
  rw [h 0 (by omega)]
  exact g_w_congr a b _ (fun k hk => ⟨h _ (by omega), h _ (by omega)⟩)
theorem g_E_congr {G G' : Nat → Nat} (h12 : G 0 ≤ 12) (h : ∀ i, i < 25 → G' i = G i) (s a b : Nat) : g_E G' s a b = g_E G s a b := by
  unfold g_E; rw [g_wy_congr h12 h]
theorem WG_of {G G' : Nat → Nat} (h : WG G) (e : ∀ i, i < 26 → G' i = G i) (h26 : G' 26 < 256) (hst : ∀ p, p < 8 → (G' 26).testBit p = true → G' (27 + p) < 8 ∧ G' (35 + p) < G 0) (h43 : G' 43 < 8) (h44 : G' 44 < 2 ^ 12) (hsub : ∀ k, (G' 44).testBit k = true → (G 25).testBit k = true) : WG G' := by
  obtain ⟨w1, w2, w3, w4, w5, w6, w7, w8, w9, w10, w11⟩ := h
  have e0 := e 0 (by omega)
  have e25 := e 25 (by omega)
  refine ⟨by omega, fun k hk => ?_, fun j k hjk hk => ?_, by rw [e25]; exact w4, fun k hk => ?_, by rw [e25]; exact w6, h26, fun p hp hs => by rw [e0]; exact hst p hp hs, h43, h44, fun k hk => by rw [e25]; exact hsub k hk⟩
  · rw [e0] at hk; rw [e _ (by omega), e _ (by omega)]; exact w2 k hk
  · rw [e0] at hk; rw [e _ (by omega), e _ (by omega), e _ (by omega), e _ (by omega)]; exact w3 j k hjk hk
  · rw [e25] at hk; rw [e0]; exact w5 k hk
theorem RC_of {I I2 : am_I} {L : am_J} {G G' : Nat → Nat} (hG : G 0 ≤ 12) (h : RC I L 1 G) (e : ∀ i, i < 26 → G' i = G i) (h5 : I2 1 5 = I 1 5) (h6 : I2 1 6 = I 1 6) (h7 : I2 1 7 = nI (G' 44)) (h8 : I2 1 8 = nI (G' 26)) (h9 : I2 1 9 = nI (G' 43)) (a2 : I2 2 = I 2) (a3 : I2 3 = I 3) (a4 : I2 4 = I 4)
    (hst : ∀ p, p < 8 → (G' 26).testBit p = true → I2 5 p = nI (G' (27 + p)) ∧ I2 6 p = nI (G' (35 + p))) : RC I2 L 1 G' := by
  obtain ⟨r5, r6, r7, r8, r9, rw2, rj, rs, rn, rc⟩ := h
  have hw := g_wy_congr hG (fun i hi => e i (by omega))
  have hE := g_E_congr hG (fun i hi => e i (by omega))
  refine ⟨by rw [h5, r5, e 0 (by omega)], by rw [h6, r6, e 25 (by omega)], h7, h8, h9, fun k hk => ?_, fun a b ha hb => ?_, hst, fun a b ha hb => ?_, fun a b ha hb => ?_⟩
  · rw [e 0 (by omega)] at hk
    show I2 2 k = _ ∧ I2 3 k = _
    rw [a2, a3, e _ (by omega), e _ (by omega)]; exact rw2 k hk
  · show I2 4 _ = _
    rw [a4, hw]; exact rj a b ha hb
  · rw [hE]; exact rn a b ha hb
  · rw [hE, e 25 (by omega)]; exact rc a b ha hb
theorem nI_m1 {w : Nat} (h : w < 2147483647) : nI w - 1 = -1 ↔ w = 0 := by
  constructor
  · intro q
    rcases Nat.eq_zero_or_pos w with z | z
    · exact z
    · obtain ⟨k, rfl⟩ : ∃ k, w = k + 1 := ⟨w - 1, by omega⟩
      rw [nI_pred] at q
      have : nI k < 0 := by rw [q]; decide
      exact absurd this (nI_pos (by omega))
  · intro q; subst q; rfl
theorem g_E_add {G : Nat → Nat} {x y : Nat} {d : Bool} (h12 : G 0 < 12) (hw : g_wy G x y = 0) (s p q : Nat) : g_E (g_add G x y d) s p q = if (p = x ∧ q = y) ∨ (p = y ∧ q = x) then !s.testBit (G 0) else g_E G s p q := by
  unfold g_E
  rw [g_add_wy h12]
  by_cases h : (p = x ∧ q = y) ∨ (p = y ∧ q = x)
  · rw [if_pos h, if_pos h]; simp
  · rw [if_neg h, if_neg h]
theorem RC_join {I : am_I} {L : am_J} {r : Nat} {G : Nat → Nat} (hW : WG G) (h : RC I L r G) {x y : Nat} {d : Int32} (hx : x < 8) (hy : y < 8) (hxy : x ≠ y) (hw : g_wy G x y = 0) (h12 : G 0 < 12) : RC (f_joinI I r (nI x) (nI y) d) (f_joinL L r (nI x) (nI y) d) r (g_add G x y (!decide (d = 0))) := by
  obtain ⟨r5, r6, r7, r8, r9, rw2, rj, rs, rn, rc⟩ := h
  have e0 : g_add G x y (!decide (d = 0)) 0 = G 0 + 1 := by simp [g_add]
  have e1 : ∀ k, k < G 0 → g_add G x y (!decide (d = 0)) (1 + k) = G (1 + k) ∧ g_add G x y (!decide (d = 0)) (13 + k) = G (13 + k) := fun k hk => by
    constructor <;> (unfold g_add; rw [if_neg (by omega), if_neg (by omega), if_neg (by omega), if_neg (by omega)])
  have ea : g_add G x y (!decide (d = 0)) (1 + G 0) = if x < y then x else y := by
    unfold g_add
    rw [if_neg (by omega), if_pos rfl]
  have eb : g_add G x y (!decide (d = 0)) (13 + G 0) = if x < y then y else x := by
    unfold g_add
    rw [if_neg (by omega), if_neg (by omega), if_pos rfl]
  have e25 : g_add G x y (!decide (d = 0)) 25 = if d = 0 then G 25 else g_set (G 25) (G 0) := by
    unfold g_add
    rw [if_neg (by omega), if_neg (by omega), if_neg (by omega), if_pos rfl]
    by_cases hd : d = 0
    · simp [hd]
    · simp [hd]
  have eo : ∀ i, 25 < i → g_add G x y (!decide (d = 0)) i = G i := fun i hi => by
    unfold g_add
    rw [if_neg (by omega), if_neg (by omega), if_neg (by omega), if_neg (by omega)]
  have c0 : (nI (G 0)).toNatClampNeg = G 0 := nI_clamp (by omega)
  have cxy : (nI x * 8 + nI y).toNatClampNeg = 8 * x + y := by rw [show (8 : Int32) = nI 8 from rfl, pk_mul, nI_add, nI_clamp (by omega), Nat.mul_comm]
  have cyx : (nI y * 8 + nI x).toNatClampNeg = 8 * y + x := by rw [show (8 : Int32) = nI 8 from rfl, pk_mul, nI_add, nI_clamp (by omega), Nat.mul_comm]
  have hlo : (if nI x < nI y then nI x else nI y) = nI (if x < y then x else y) := by
    by_cases z : x < y
    · rw [if_pos (nI_lt z (by omega)), if_pos z]
    · rw [if_neg (nI_nlt (by omega) (by omega)), if_neg z]
  have hhi : (if nI x < nI y then nI y else nI x) = nI (if x < y then y else x) := by
    by_cases z : x < y
    · rw [if_pos (nI_lt z (by omega)), if_pos z]
    · rw [if_neg (nI_nlt (by omega) (by omega)), if_neg z]
  have hfI : f_joinI I r (nI x) (nI y) d = am_ui (if d = 0 then am_ui (am_ui (am_ui (am_ui I (r + 1) (G 0) (nI (if x < y then x else y))) (r + 2) (G 0) (nI (if x < y then y else x))) (r + 3) (8 * x + y) (nI (G 0 + 1))) (r + 3) (8 * y + x) (nI (G 0 + 1)) else am_ui (am_ui (am_ui (am_ui (am_ui I (r + 1) (G 0) (nI (if x < y then x else y))) (r + 2) (G 0) (nI (if x < y then y else x))) (r + 3) (8 * x + y) (nI (G 0 + 1))) (r + 3) (8 * y + x) (nI (G 0 + 1))) r 6 (nI (g_set (G 25) (G 0)))) r 5 (nI (G 0 + 1)) := by
    unfold f_joinI
    rw [r5, r6, hlo, hhi, c0, cxy, cyx, nI_1, g_set_I _ (by omega)]
  rw [hfI]
  generalize hI1 : am_ui (am_ui (am_ui (am_ui I (r + 1) (G 0) (nI (if x < y then x else y))) (r + 2) (G 0) (nI (if x < y then y else x))) (r + 3) (8 * x + y) (nI (G 0 + 1))) (r + 3) (8 * y + x) (nI (G 0 + 1)) = J
  have j0 : ∀ k, J r k = I r k := fun k => by rw [← hI1, am_ui_n (by omega), am_ui_n (by omega), am_ui_n (by omega), am_ui_n (by omega)]
  have j1 : ∀ k, J (r + 1) k = if k = G 0 then nI (if x < y then x else y) else I (r + 1) k := fun k => by
    rw [← hI1, am_ui_n (by omega), am_ui_n (by omega), am_ui_n (by omega), am_ui_r]
    by_cases z : k = G 0
    · rw [if_pos ⟨rfl, z⟩, if_pos z]
    · rw [if_neg (fun q => z q.2), if_neg z]
  have j2 : ∀ k, J (r + 2) k = if k = G 0 then nI (if x < y then y else x) else I (r + 2) k := fun k => by
    rw [← hI1, am_ui_n (by omega), am_ui_n (by omega), am_ui_r]
    by_cases z : k = G 0
    · rw [if_pos ⟨rfl, z⟩, if_pos z]
    · rw [if_neg (fun q => z q.2), if_neg z, am_ui_n (by omega)]
  have j3 : ∀ k, J (r + 3) k = if k = 8 * y + x ∨ k = 8 * x + y then nI (G 0 + 1) else I (r + 3) k := fun k => by
    rw [← hI1, am_ui_r]
    by_cases z : k = 8 * y + x
    · rw [if_pos ⟨rfl, z⟩, if_pos (Or.inl z)]
    · rw [if_neg (fun q => z q.2), am_ui_r]
      by_cases z2 : k = 8 * x + y
      · rw [if_pos ⟨rfl, z2⟩, if_pos (Or.inr z2)]
      · rw [if_neg (fun q => z2 q.2), if_neg (show ¬ (k = 8 * y + x ∨ k = 8 * x + y) by omega), am_ui_n (by omega), am_ui_n (by omega)]
  have j4 : ∀ a, r + 3 < a → J a = I a := fun a ha => by rw [← hI1, am_ui_o (by omega), am_ui_o (by omega), am_ui_o (by omega), am_ui_o (by omega)]
  clear hI1
  have hJ : ∀ a k, ¬ (a = r ∧ (k = 5 ∨ k = 6)) → am_ui (if d = 0 then J else am_ui J r 6 (nI (g_set (G 25) (G 0)))) r 5 (nI (G 0 + 1)) a k = J a k := fun a k hk => by
    rw [am_ui_n (by omega)]
    split
    · rfl
    · rw [am_ui_n (by omega)]
  have lnet : ∀ k, f_joinL L r (nI x) (nI y) d r k = if k = 10 then L r 10 ||| f_pair (nI x) (nI y) else if k = 11 ∧ d = 0 then L r 11 ||| f_pair (nI x) (nI y) else L r k := fun k => by
    unfold f_joinL
    by_cases hd : d = 0
    · rw [if_pos hd, am_uj_r]
      by_cases z : k = 11
      · subst z; rw [if_pos ⟨rfl, rfl⟩, if_neg (by omega), if_pos ⟨rfl, hd⟩]
      · rw [if_neg (fun q => z q.2), am_uj_r]
        by_cases z2 : k = 10
        · rw [if_pos ⟨rfl, z2⟩, if_pos z2]
        · rw [if_neg (fun q => z2 q.2), if_neg z2, if_neg (fun q => z q.1)]
    · rw [if_neg hd, am_uj_r]
      by_cases z2 : k = 10
      · rw [if_pos ⟨rfl, z2⟩, if_pos z2]
      · rw [if_neg (fun q => z2 q.2), if_neg z2, if_neg (fun q => hd q.2)]
  have pr : ∀ p q, p < 8 → q < 8 → (bl (f_pair (nI x) (nI y)) (8 * p + q) = true ↔ (p = x ∧ q = y) ∨ (p = y ∧ q = x)) := fun p q hp hq => by
    rw [f_pair_bl hx hy hp hq]; simp
  have hE0 : ∀ p q, ((p = x ∧ q = y) ∨ (p = y ∧ q = x)) → ∀ s, g_E G s p q = false := fun p q hpq s => by
    have : g_wy G p q = 0 := by
      rcases hpq with ⟨rfl, rfl⟩ | ⟨rfl, rfl⟩
      · exact hw
      · rw [g_wy_sym]; exact hw
    unfold g_E; simp [this]
  have hb0 : (G 25).testBit (G 0) = false := by
    cases hq : (G 25).testBit (G 0) with
    | false => rfl
    | true => have := hW.2.2.2.2.1 _ hq; omega
  refine ⟨by rw [am_ui_e, e0], ?_, by rw [hJ _ _ (by omega), j0, r7, eo 44 (by omega)], by rw [hJ _ _ (by omega), j0, r8, eo 26 (by omega)], by rw [hJ _ _ (by omega), j0, r9, eo 43 (by omega)], fun k hk => ?_, fun a b ha hb => ?_, fun p hp hs => ?_, fun a b ha hb => ?_, fun a b ha hb => ?_⟩
  · rw [am_ui_n (by omega), e25]
    by_cases hd : d = 0
    · rw [if_pos hd, if_pos hd, j0, r6]
    · rw [if_neg hd, if_neg hd, am_ui_e]
  · rw [e0] at hk
    rw [hJ _ _ (by omega), hJ _ _ (by omega), j1, j2]
    by_cases z : k = G 0
    · rw [if_pos z, if_pos z, z, ea, eb]; exact ⟨rfl, rfl⟩
    · rw [if_neg z, if_neg z, (e1 k (by omega)).1, (e1 k (by omega)).2]; exact rw2 k (by omega)
  · rw [hJ _ _ (by omega), j3, g_add_wy h12]
    by_cases z : (a = x ∧ b = y) ∨ (a = y ∧ b = x)
    · rw [if_pos z, if_pos (by omega)]
    · rw [if_neg z, if_neg (by omega)]; exact rj a b ha hb
  · rw [eo 26 (by omega)] at hs
    rw [hJ _ _ (by omega), hJ _ _ (by omega), j4 _ (by omega), j4 _ (by omega), eo _ (by omega), eo _ (by omega)]
    exact rs p hp hs
  · rw [lnet, if_pos rfl, bl_or, rn a b ha hb, g_E_add h12 hw]
    by_cases z : (a = x ∧ b = y) ∨ (a = y ∧ b = x)
    · rw [if_pos z, (pr a b ha hb).mpr z]; simp
    · rw [if_neg z]
      have : bl (f_pair (nI x) (nI y)) (8 * a + b) = false := by
        cases hq : bl (f_pair (nI x) (nI y)) (8 * a + b) with
        | false => rfl
        | true => exact absurd ((pr a b ha hb).mp hq) z
      rw [this, Bool.or_false]
  · rw [lnet, if_neg (by omega), g_E_add h12 hw, e25]
    by_cases hd : d = 0
    · rw [if_pos ⟨rfl, hd⟩, if_pos hd, bl_or, rc a b ha hb]
      by_cases z : (a = x ∧ b = y) ∨ (a = y ∧ b = x)
      · rw [if_pos z, (pr a b ha hb).mpr z, hb0]; simp
      · rw [if_neg z]
        have : bl (f_pair (nI x) (nI y)) (8 * a + b) = false := by
          cases hq : bl (f_pair (nI x) (nI y)) (8 * a + b) with
          | false => rfl
          | true => exact absurd ((pr a b ha hb).mp hq) z
        rw [this, Bool.or_false]
    · rw [if_neg (fun q => hd q.2), if_neg hd, rc a b ha hb]
      by_cases z : (a = x ∧ b = y) ∨ (a = y ∧ b = x)
      · rw [if_pos z, hE0 a b z, g_set_t]; simp
      · rw [if_neg z]
        unfold g_E
        by_cases hz : g_wy G a b = 0
        · simp [hz]
        · have hle := g_wy_le G a b
          have : ¬ g_wy G a b - 1 = G 0 := by omega
          rw [g_set_t]; simp [this]
theorem f_join_fr {I : am_I} {L : am_J} {r : Nat} {a b d : Int32} : (∀ o, o ≠ r → o ≠ r + 1 → o ≠ r + 2 → o ≠ r + 3 → f_joinI I r a b d o = I o) ∧ (∀ o, o ≠ r → f_joinL L r a b d o = L o) := by
  constructor
  · intro o h0 h1 h2 h3
    unfold f_joinI
    rw [am_ui_o h0]
    split
    · rw [am_ui_o h3, am_ui_o h3, am_ui_o h2, am_ui_o h1]
    · rw [am_ui_o h0, am_ui_o h3, am_ui_o h3, am_ui_o h2, am_ui_o h1]
  · intro o h0
    unfold f_joinL
    split
    · rw [am_uj_o h0, am_uj_o h0]
    · rw [am_uj_o h0]
