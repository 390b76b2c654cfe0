/-! THE CLASS: a road emptied, a road taken over -/
def T_SY_arraycopy : am_Sp := fun vs I L post => match vs with
  | [.ref a, .int sp, .ref b, .int dp, .int n] => am_sh am_SX a (fun c => am_sh am_SX b (fun c2 => match c, c2 with
    | .inr (0, na, _), .inr (0, nb, _) => ¬ sp < 0 ∧ (¬ dp < 0 ∧ (¬ n < 0 ∧ (sp.toNatClampNeg + n.toNatClampNeg ≤ na ∧ (dp.toNatClampNeg + n.toNatClampNeg ≤ nb ∧ post none (am_cpi I a b sp.toNatClampNeg dp.toNatClampNeg n.toNatClampNeg) L))))
    | .inr (1, na, _), .inr (1, nb, _) => ¬ sp < 0 ∧ (¬ dp < 0 ∧ (¬ n < 0 ∧ (sp.toNatClampNeg + n.toNatClampNeg ≤ na ∧ (dp.toNatClampNeg + n.toNatClampNeg ≤ nb ∧ post none I (am_cpj L a b sp.toNatClampNeg dp.toNatClampNeg n.toNatClampNeg)))))
    | _, _ => False))
  | _ => False
theorem am_cpi_r (I : am_I) (src dst sp dp n a b : Nat) : am_cpi I src dst sp dp n a b = if a = dst ∧ (dp ≤ b ∧ b < dp + n) then I src (sp + (b - dp)) else I a b := rfl
theorem am_cpj_r (I : am_J) (src dst sp dp n a b : Nat) : am_cpj I src dst sp dp n a b = if a = dst ∧ (dp ≤ b ∧ b < dp + n) then I src (sp + (b - dp)) else I a b := rfl
theorem am_cpi_o {I : am_I} {src dst sp dp n a : Nat} (h : a ≠ dst) : am_cpi I src dst sp dp n a = I a := by funext b; simp [am_cpi, h]
theorem am_cpj_o {I : am_J} {src dst sp dp n a : Nat} (h : a ≠ dst) : am_cpj I src dst sp dp n a = I a := by funext b; simp [am_cpj, h]
def am_rq (r q : Nat) : Prop := (r = 1 ∧ q = 13) ∨ (r = 7 ∧ q = 1) ∨ (r = 1 ∧ q = 7)
def am_rf (r : Nat) (I I2 : am_I) (L L2 : am_J) : Prop := (∀ a : Nat, (a < r ∨ r + 5 < a) → I2 a = I a) ∧ (∀ a : Nat, a ≠ r → L2 a = L a)
/-- an empty road, of home h -/
def g_0 (h : Nat) : Nat → Nat := fun i => if i = 43 then h else 0
theorem WG_0 {h : Nat} (hh : h < 8) : WG (g_0 h) := by
  refine ⟨by simp [g_0], fun k hk => by simp [g_0] at hk, fun j k _ hk => by simp [g_0] at hk, by simp [g_0], fun k hk => by simp [g_0] at hk, by simp [g_0]; decide, by simp [g_0], fun p _ hs => by simp [g_0] at hs, by simpa [g_0] using hh, by simp [g_0], fun k hk => by simp [g_0] at hk⟩
theorem g_wy_0 (h a b : Nat) : g_wy (g_0 h) a b = 0 := by
  unfold g_wy
  rw [show g_0 h 0 = 0 by simp [g_0]]
  rfl
theorem g_E_0 (h s a b : Nat) : g_E (g_0 h) s a b = false := by
  unfold g_E; rw [g_wy_0]; rfl
def T_RD_clear : am_Sp := fun vs I L post => match vs with
  | [.ref r] => r = 13 ∧ ∃ g, I 13 9 = nI g ∧ ∀ (I2 : am_I) (L2 : am_J), RC I2 L2 13 (g_0 g) → (∀ a, a ≠ 13 → a ≠ 16 → I2 a = I a) → (∀ a, a ≠ 13 → L2 a = L a) → post none I2 L2
  | _ => False
abbrev sp_RD_clear : Nat → am_Sp := fun _ => am_no
set_option maxRecDepth 100000 in
theorem ok_RD_clear : am_Ok am_SX sp_RD_clear false k_RD_clear 2 T_RD_clear := by
  intro vs I L post h
  unfold T_RD_clear at h
  split at h
  · rename_i r
    obtain ⟨rfl, g, h9, h⟩ := h
    refine ⟨Nat.le_of_ble_eq_true rfl, fun G2 hG2 => ?_⟩
    have loop : ∀ d k (I1 : am_I), 64 - k = d → k ≤ 64 → (∀ a, a ≠ 16 → I1 a = I a) → (∀ j, j < k → I1 16 j = 0) → G2 2 [some (.ref 13), some (.int (nI k))] [] I1 L := by
      intro d
      induction d with
      | zero =>
        intro k I1 hd hk ho hz
        have e : k = 64 := by omega
        subst e
        refine hG2 [(2, [])] 100 2 _ _ _ _ (am_nt (am_nlt (Nat.le_refl 64) rfl) ?_)
        show post none (am_ui (am_ui (am_ui (am_ui I1 13 5 0) 13 6 0) 13 7 0) 13 8 0) (am_uj (am_uj L 13 10 0) 13 11 0)
        have e9 : I1 13 9 = nI g := by rw [ho 13 (by omega)]; exact h9
        refine h _ _ ⟨?_, ?_, ?_, ?_, ?_, fun k hk => by simp [g_0] at hk, fun a b ha hb => ?_, fun p _ hs => by simp [g_0] at hs, fun a b ha hb => ?_, fun a b ha hb => ?_⟩ (fun a h1 h2 => by rw [am_ui_o h1, am_ui_o h1, am_ui_o h1, am_ui_o h1]; exact ho a h2) (fun a h1 => by rw [am_uj_o h1, am_uj_o h1])
        · simp [am_ui_r, g_0, nI_0]
        · simp [am_ui_r, g_0, nI_0]
        · simp [am_ui_r, g_0, nI_0]
        · simp [am_ui_r, g_0, nI_0]
        · simp [am_ui_r, g_0, e9]
        · rw [g_wy_0, am_ui_n (by omega), am_ui_n (by omega), am_ui_n (by omega), am_ui_n (by omega)]
          exact hz _ (by omega)
        · rw [g_E_0, am_uj_n (by omega), am_uj_e, bl_0]
        · rw [g_E_0, am_uj_e, bl_0]
      | succ d ih =>
        intro k I1 hd hk ho hz
        refine hG2 [(2, [])] 100 2 _ _ _ _ (am_nf (am_lt (by omega : k < 64) rfl) (And.intro (am_vin (by omega) rfl) ?_))
        show G2 2 [some (.ref 13), some (.int (nI k + 1))] [] (am_ui I1 16 (nI k).toNatClampNeg 0) L
        rw [nI_1, nI_clamp (by omega)]
        refine ih (k + 1) _ (by omega) (by omega) (fun a ha => (am_ui_o ha).trans (ho a ha)) (fun j hj => ?_)
        rw [am_ui_r]
        split
        · rfl
        · rename_i q; exact hz j (by omega)
    refine hG2 [(2, [])] 100 0 _ _ _ _ ?_
    exact loop 64 0 I (by omega) (by omega) (fun _ _ => rfl) (fun j hj => by omega)
  · exact h.elim
theorem RC_cp {I I2 : am_I} {L L2 : am_J} {r q : Nat} {G : Nat → Nat} (hW : G 0 ≤ 12) (h : RC I L q G) (f : ∀ k, 5 ≤ k → k ≤ 9 → I2 r k = I q k) (l : ∀ k, 10 ≤ k → k ≤ 11 → L2 r k = L q k) (a1 : ∀ k, k < 12 → I2 (r + 1) k = I (q + 1) k) (a2 : ∀ k, k < 12 → I2 (r + 2) k = I (q + 2) k) (a3 : ∀ k, k < 64 → I2 (r + 3) k = I (q + 3) k) (a4 : ∀ k, k < 8 → I2 (r + 4) k = I (q + 4) k) (a5 : ∀ k, k < 8 → I2 (r + 5) k = I (q + 5) k) : RC I2 L2 r G := by
  obtain ⟨r5, r6, r7, r8, r9, rw2, rj, rs, rn, rc⟩ := h
  refine ⟨by rw [f 5 (by omega) (by omega)]; exact r5, by rw [f 6 (by omega) (by omega)]; exact r6, by rw [f 7 (by omega) (by omega)]; exact r7, by rw [f 8 (by omega) (by omega)]; exact r8, by rw [f 9 (by omega) (by omega)]; exact r9, fun k hk => ?_, fun a b ha hb => ?_, fun p hp hs => ?_, fun a b ha hb => ?_, fun a b ha hb => ?_⟩
  · rw [a1 k (by omega), a2 k (by omega)]; exact rw2 k hk
  · rw [a3 _ (by omega)]; exact rj a b ha hb
  · rw [a4 p hp, a5 p hp]; exact rs p hp hs
  · rw [l 10 (by omega) (by omega)]; exact rn a b ha hb
  · rw [l 11 (by omega) (by omega)]; exact rc a b ha hb
def T_RD_become : am_Sp := fun vs I L post => match vs with
  | [.ref r, .ref q] => am_rq r q ∧ ∃ G, G 0 ≤ 12 ∧ RC I L q G ∧ ∀ (I2 : am_I) (L2 : am_J), RC I2 L2 r G → am_rf r I I2 L L2 → post none I2 L2
  | _ => False
def sp_RD_become : Nat → am_Sp := fun i => match i with
  | 83 => T_SY_arraycopy
  | _ => am_no
set_option maxRecDepth 100000 in
set_option maxHeartbeats 4000000 in
theorem ok_RD_become : am_Ok am_SX sp_RD_become false k_RD_become 2 T_RD_become := by
  intro vs I L post h
  unfold T_RD_become at h
  split at h
  · rename_i r q
    obtain ⟨hrq, G, hW, hRC, h⟩ := h
    refine ⟨Nat.le_of_ble_eq_true rfl, fun G2 hG2 => ?_⟩
    rcases hrq with ⟨rfl, rfl⟩ | ⟨rfl, rfl⟩ | ⟨rfl, rfl⟩
    · refine hG2 [] 200 0 _ _ _ _ (And.intro (by decide) (And.intro (by decide) (And.intro (by decide) (And.intro (by decide) (And.intro (by decide) (And.intro (by decide) (And.intro (by decide) (And.intro (by decide) (And.intro (by decide) (And.intro (by decide) (And.intro (by decide) (And.intro (by decide) (And.intro (by decide) (And.intro (by decide) (And.intro (by decide) (And.intro (by decide) (And.intro (by decide) (And.intro (by decide) (And.intro (by decide) (And.intro (by decide) (And.intro (by decide) (And.intro (by decide) (And.intro (by decide) (And.intro (by decide) (And.intro (by decide) ?_)))))))))))))))))))))))))
      refine h _ _ (RC_cp hW hRC (fun k h1 h2 => ?_) (fun k h1 h2 => ?_) (fun k hk => ?_) (fun k hk => ?_) (fun k hk => ?_) (fun k hk => ?_) (fun k hk => ?_)) ⟨fun a ha => ?_, fun a ha => ?_⟩
      · rcases (show k = 5 ∨ k = 6 ∨ k = 7 ∨ k = 8 ∨ k = 9 by omega) with rfl | rfl | rfl | rfl | rfl <;> simp [am_ui_r, am_cpi_r]
      · rcases (show k = 10 ∨ k = 11 by omega) with rfl | rfl <;> simp [am_uj_r]
      · simp [am_ui_r, am_cpi_r]; intro z; omega
      · simp [am_ui_r, am_cpi_r]; intro z; omega
      · simp [am_ui_r, am_cpi_r]; intro z; omega
      · simp [am_ui_r, am_cpi_r]; intro z; omega
      · simp [am_ui_r, am_cpi_r]; intro z; omega
      · rw [am_ui_o (show a ≠ 1 by omega), am_ui_o (show a ≠ 1 by omega), am_ui_o (show a ≠ 1 by omega), am_ui_o (show a ≠ 1 by omega), am_ui_o (show a ≠ 1 by omega), am_cpi_o (show a ≠ 6 by omega), am_cpi_o (show a ≠ 5 by omega), am_cpi_o (show a ≠ 4 by omega), am_cpi_o (show a ≠ 3 by omega), am_cpi_o (show a ≠ 2 by omega)]
      · rw [am_uj_o (show a ≠ 1 by omega), am_uj_o (show a ≠ 1 by omega)]
    · refine hG2 [] 200 0 _ _ _ _ (And.intro (by decide) (And.intro (by decide) (And.intro (by decide) (And.intro (by decide) (And.intro (by decide) (And.intro (by decide) (And.intro (by decide) (And.intro (by decide) (And.intro (by decide) (And.intro (by decide) (And.intro (by decide) (And.intro (by decide) (And.intro (by decide) (And.intro (by decide) (And.intro (by decide) (And.intro (by decide) (And.intro (by decide) (And.intro (by decide) (And.intro (by decide) (And.intro (by decide) (And.intro (by decide) (And.intro (by decide) (And.intro (by decide) (And.intro (by decide) (And.intro (by decide) ?_)))))))))))))))))))))))))
      refine h _ _ (RC_cp hW hRC (fun k h1 h2 => ?_) (fun k h1 h2 => ?_) (fun k hk => ?_) (fun k hk => ?_) (fun k hk => ?_) (fun k hk => ?_) (fun k hk => ?_)) ⟨fun a ha => ?_, fun a ha => ?_⟩
      · rcases (show k = 5 ∨ k = 6 ∨ k = 7 ∨ k = 8 ∨ k = 9 by omega) with rfl | rfl | rfl | rfl | rfl <;> simp [am_ui_r, am_cpi_r]
      · rcases (show k = 10 ∨ k = 11 by omega) with rfl | rfl <;> simp [am_uj_r]
      · simp [am_ui_r, am_cpi_r]; intro z; omega
      · simp [am_ui_r, am_cpi_r]; intro z; omega
      · simp [am_ui_r, am_cpi_r]; intro z; omega
      · simp [am_ui_r, am_cpi_r]; intro z; omega
      · simp [am_ui_r, am_cpi_r]; intro z; omega
      · rw [am_ui_o (show a ≠ 7 by omega), am_ui_o (show a ≠ 7 by omega), am_ui_o (show a ≠ 7 by omega), am_ui_o (show a ≠ 7 by omega), am_ui_o (show a ≠ 7 by omega), am_cpi_o (show a ≠ 12 by omega), am_cpi_o (show a ≠ 11 by omega), am_cpi_o (show a ≠ 10 by omega), am_cpi_o (show a ≠ 9 by omega), am_cpi_o (show a ≠ 8 by omega)]
      · rw [am_uj_o (show a ≠ 7 by omega), am_uj_o (show a ≠ 7 by omega)]
    · refine hG2 [] 200 0 _ _ _ _ (And.intro (by decide) (And.intro (by decide) (And.intro (by decide) (And.intro (by decide) (And.intro (by decide) (And.intro (by decide) (And.intro (by decide) (And.intro (by decide) (And.intro (by decide) (And.intro (by decide) (And.intro (by decide) (And.intro (by decide) (And.intro (by decide) (And.intro (by decide) (And.intro (by decide) (And.intro (by decide) (And.intro (by decide) (And.intro (by decide) (And.intro (by decide) (And.intro (by decide) (And.intro (by decide) (And.intro (by decide) (And.intro (by decide) (And.intro (by decide) (And.intro (by decide) ?_)))))))))))))))))))))))))
      refine h _ _ (RC_cp hW hRC (fun k h1 h2 => ?_) (fun k h1 h2 => ?_) (fun k hk => ?_) (fun k hk => ?_) (fun k hk => ?_) (fun k hk => ?_) (fun k hk => ?_)) ⟨fun a ha => ?_, fun a ha => ?_⟩
      · rcases (show k = 5 ∨ k = 6 ∨ k = 7 ∨ k = 8 ∨ k = 9 by omega) with rfl | rfl | rfl | rfl | rfl <;> simp [am_ui_r, am_cpi_r]
      · rcases (show k = 10 ∨ k = 11 by omega) with rfl | rfl <;> simp [am_uj_r]
      · simp [am_ui_r, am_cpi_r]; intro z; omega
      · simp [am_ui_r, am_cpi_r]; intro z; omega
      · simp [am_ui_r, am_cpi_r]; intro z; omega
      · simp [am_ui_r, am_cpi_r]; intro z; omega
      · simp [am_ui_r, am_cpi_r]; intro z; omega
      · rw [am_ui_o (show a ≠ 1 by omega), am_ui_o (show a ≠ 1 by omega), am_ui_o (show a ≠ 1 by omega), am_ui_o (show a ≠ 1 by omega), am_ui_o (show a ≠ 1 by omega), am_cpi_o (show a ≠ 6 by omega), am_cpi_o (show a ≠ 5 by omega), am_cpi_o (show a ≠ 4 by omega), am_cpi_o (show a ≠ 3 by omega), am_cpi_o (show a ≠ 2 by omega)]
      · rw [am_uj_o (show a ≠ 1 by omega), am_uj_o (show a ≠ 1 by omega)]
  · exact h.elim
