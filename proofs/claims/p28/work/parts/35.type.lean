/-! THE CLASS: typing -/
def o_by (w : Int64) (k : Nat) : Nat := (f_byte w (nI k)).toNatClampNeg
theorem o_by_I (w : Int64) (k : Nat) : f_byte w (nI k) = nI (o_by w k) ∧ o_by w k < 256 := by
  obtain ⟨j, hj, e⟩ := pk_andE ((w.toUInt64 >>> ((8 * nI k).toInt64.toUInt64 &&& Int64.toUInt64 63)).toInt64.toInt32) (m := 255) 8 (by decide)
  have e2 : f_byte w (nI k) = nI j := e
  unfold o_by
  rw [e2, nI_clamp (by omega)]
  exact ⟨rfl, hj⟩
def o_tyB (w : Int64) (n : Nat) : Bool := (List.range n).all (fun k => decide (32 ≤ o_by w k) && decide (o_by w k ≤ 126))
theorem o_tyB_iff {w : Int64} {n : Nat} : o_tyB w n = true ↔ ∀ k, k < n → 32 ≤ o_by w k ∧ o_by w k ≤ 126 := by
  unfold o_tyB
  simp [List.all_eq_true]
/-- n bytes of w behind what is on the tape -/
def o_tt (tn : Nat) (tt : Nat → Nat) (w : Int64) (n : Nat) : Nat → Nat := fun j => if j < tn then tt j else o_by w (n - 1 - (j - tn))
def o_type : am_A → Int64 → Int32 → Int32 × am_A
  | (G, K, hk, tn, tt, R), w, n => if ¬ ((1 ≤ n ∧ n ≤ 8) ∧ o_tyB w n.toNatClampNeg = true) then (-1, (G, K, hk, tn, tt, R)) else if 100 < tn + n.toNatClampNeg then (-3, (G, K, hk, tn, tt, R)) else (nI (tn + n.toNatClampNeg), (G, K, hk, tn + n.toNatClampNeg, o_tt tn tt w n.toNatClampNeg, R))
theorem am_i8 : ∀ b, b < 127 → (nI b).toInt8.toInt32 = nI b := by decide +kernel
def T_RP_isTypeable : am_Sp := fun vs I L post => match vs with
  | [.long w, .int n] => post (some (.int (am_b ((1 ≤ n ∧ n ≤ 8) ∧ o_tyB w n.toNatClampNeg = true)))) I L
  | _ => False
def sp_RP_isTypeable : Nat → am_Sp := fun i => match i with
  | 223 => T_RP_byteOf
  | _ => am_no
set_option maxRecDepth 100000 in
set_option maxHeartbeats 4000000 in
theorem ok_RP_isTypeable : am_Ok am_SX sp_RP_isTypeable true k_RP_isTypeable 5 T_RP_isTypeable := by
  intro vs I L post h
  unfold T_RP_isTypeable at h
  split at h
  · rename_i w n
    refine ⟨Nat.le_of_ble_eq_true rfl, fun G2 hG2 => ?_⟩
    by_cases h1 : n < 1
    · rw [am_b0 (fun q => Int32.not_le.mpr h1 q.1.1)] at h
      exact hG2 [] 100 0 _ _ _ _ (am_t h1 (And.intro (Or.inl rfl) h))
    · by_cases h2 : 8 < n
      · rw [am_b0 (fun q => Int32.not_le.mpr h2 q.1.2)] at h
        exact hG2 [] 100 0 _ _ _ _ (am_f h1 (am_nf h2 (And.intro (Or.inl rfl) h)))
      · have hn1 : 1 ≤ n := Int32.not_lt.mp h1
        have hn8 : n ≤ 8 := Int32.not_lt.mp h2
        obtain ⟨m, hm, rfl⟩ := am_rng (n := 9) (by omega) (Int32.le_trans (by decide) hn1) (Int32.lt_of_le_of_lt hn8 (by decide))
        rw [nI_clamp (by omega)] at h
        have loop : ∀ d k (x4 : Option Value), m - k = d → k ≤ m → (∀ j, j < k → 32 ≤ o_by w j ∧ o_by w j ≤ 126) → G2 15 [some (.long w), none, some (.int (nI m)), some (.int (nI k)), x4] [] I L := by
          intro d
          induction d with
          | zero =>
            intro k x4 hd hk hj
            have e : k = m := by omega
            subst e
            rw [am_b1 ⟨⟨hn1, hn8⟩, o_tyB_iff.mpr hj⟩] at h
            exact hG2 [] 100 15 _ _ _ _ (am_nt (nI_nlt (Nat.le_refl k) (by omega)) (And.intro (Or.inr rfl) h))
          | succ d ih =>
            intro k x4 hd hk hj
            obtain ⟨e, hb⟩ := o_by_I w k
            have vb := o_by w k
            refine hG2 [(15, [])] 100 15 _ _ _ _ (am_nf (nI_lt (by omega) (by omega)) ?_)
            show (f_byte w (nI k) < 32 → _) ∧ (¬ f_byte w (nI k) < 32 → _)
            rw [e]
            by_cases b1 : o_by w k < 32
            · rw [am_b0 (fun q => by have := o_tyB_iff.mp q.2 k (by omega); omega)] at h
              exact am_t (am_lt b1 rfl) (And.intro (Or.inl rfl) h)
            · refine am_f (nI_nlt (a := o_by w k) (b := 32) (by omega) (by omega)) ?_
              by_cases b2 : 126 < o_by w k
              · rw [am_b0 (fun q => by have := o_tyB_iff.mp q.2 k (by omega); omega)] at h
                exact am_nf (nI_lt (a := 126) b2 (by omega)) (And.intro (Or.inl rfl) h)
              · refine am_nt (nI_nlt (a := 126) (b := o_by w k) (by omega) (by omega)) ?_
                show G2 15 [some (.long w), none, some (.int (nI m)), some (.int (nI k + 1)), some (.int (nI (o_by w k)))] [] I L
                rw [nI_1]
                refine ih (k + 1) _ (by omega) (by omega) (fun j hj2 => ?_)
                by_cases e3 : j = k
                · subst e3; exact ⟨by omega, by omega⟩
                · exact hj j (by omega)
        refine hG2 [(15, [])] 100 0 _ _ _ _ (am_f h1 (am_nt h2 ?_))
        exact loop m 0 none (by omega) (by omega) (fun j hj => by omega)
  · exact h.elim
def T_TP_add : am_Sp := fun vs I L post => match vs with
  | [.ref o, .long w, .int x] => o = 19 ∧ ∃ tn tt, ∃ n : Nat, TP I tn tt ∧ tn ≤ 100 ∧ 1 ≤ n ∧ n ≤ 8 ∧ x = nI n ∧ (∀ k, k < n → 32 ≤ o_by w k ∧ o_by w k ≤ 126) ∧ (100 < tn + n → post (some (.int 0)) I L) ∧ (¬ 100 < tn + n → ∀ I2 : am_I, TP I2 (tn + n) (o_tt tn tt w n) → (∀ a : Nat, a ≠ 19 → a ≠ 20 → I2 a = I a) → post (some (.int 1)) I2 L)
  | _ => False
def sp_TP_add : Nat → am_Sp := fun i => match i with
  | 19 => T_RP_byteOf
  | _ => am_no
set_option maxRecDepth 100000 in
set_option maxHeartbeats 4000000 in
theorem ok_TP_add : am_Ok am_SX sp_TP_add true k_TP_add 5 T_TP_add := by
  intro vs I L post h
  unfold T_TP_add at h
  split at h
  · rename_i o w x
    obtain ⟨rfl, tn, tt, n, hT, ht, hn1, hn8, rfl, hb2, h1, h2⟩ := h
    refine ⟨Nat.le_of_ble_eq_true rfl, fun G2 hG2 => ?_⟩
    have e100 : (100 : Int32) - I 19 1 = nI (100 - tn) := by rw [hT.1]; exact pk_sub ht
    by_cases hf : 100 < tn + n
    · refine hG2 [] 100 0 _ _ _ _ ?_
      show (¬ (100 : Int32) - I 19 1 < nI n → _) ∧ ((100 : Int32) - I 19 1 < nI n → _)
      rw [e100]
      exact am_nf (nI_lt (by omega) (by omega)) (And.intro (Or.inl rfl) (h1 hf))
    · have h2 := h2 hf
      have loop : ∀ c (I1 : am_I), c ≤ n → TP I1 (tn + (n - c)) (o_tt tn tt w n) → (∀ a : Nat, a ≠ 19 → a ≠ 20 → I1 a = I a) → G2 18 [some (.ref 19), some (.long w), none, some (.int (nI n)), some (.int (nI c - 1))] [] I1 L := by
        intro c
        induction c with
        | zero =>
          intro I1 hc hT1 hI1
          exact hG2 [] 100 18 _ _ _ _ (am_t (by decide) (And.intro (Or.inr rfl) (h2 I1 hT1 hI1)))
        | succ c ih =>
          intro I1 hc hT1 hI1
          obtain ⟨e, hb⟩ := o_by_I w c
          have hbb := hb2 c (by omega)
          rw [nI_pred]
          have e1 : I1 19 1 = nI (tn + (n - (c + 1))) := hT1.1
          refine hG2 [(18, [])] 100 18 _ _ _ _ (am_f (nI_pos (show c < 2 ^ 31 by omega)) ?_)
          refine And.intro (show vp_in (I1 19 1) 100 by rw [e1]; exact am_vin (by omega) rfl) ?_
          show G2 18 [some (.ref 19), some (.long w), none, some (.int (nI n)), some (.int (nI c + (-1)))] [] (am_ui (am_ui I1 20 (I1 19 1).toNatClampNeg (vp_nar .byte (f_byte w (nI c)).toInt8.toInt32)) 19 1 (am_ui I1 20 (I1 19 1).toNatClampNeg (vp_nar .byte (f_byte w (nI c)).toInt8.toInt32) 19 1 + 1)) L
          rw [am_uo (show (19 : Nat) ≠ 20 by omega), pk_vb, e, am_i8 _ (by omega), e1, nI_clamp (by omega), nI_1, show nI c + (-1) = nI c - 1 by grind]
          refine ih _ (by omega) ⟨?_, fun j hj => ?_⟩ (fun a h19 h20 => by rw [am_ui_o h19, am_ui_o h20]; exact hI1 a h19 h20)
          · rw [am_ui_e]; congr 1; omega
          · rw [am_uo (show (20 : Nat) ≠ 19 by omega)]
            by_cases e3 : j = tn + (n - (c + 1))
            · subst e3
              rw [am_ui_e]
              unfold o_tt
              rw [if_neg (by omega)]
              congr 2
              omega
            · rw [am_uk e3]; exact hT1.2 j (by omega)
      refine hG2 [(18, [])] 100 0 _ _ _ _ ?_
      show (¬ (100 : Int32) - I 19 1 < nI n → _) ∧ ((100 : Int32) - I 19 1 < nI n → _)
      rw [e100]
      refine am_nt (nI_nlt (by omega) (by omega)) ?_
      refine loop n I (Nat.le_refl n) ⟨?_, fun j hj => ?_⟩ (fun _ _ _ => rfl)
      · rw [hT.1]; congr 1; omega
      · rw [hT.2 j (by omega)]
        unfold o_tt
        rw [if_pos (by omega)]
  · exact h.elim
def T_RP_type : am_Sp := fun vs I L post => match vs with
  | [.ref o, .long w, .int n] => o = 0 ∧ ∃ A, CR I L A ∧ ∀ (I2 : am_I) (L2 : am_J), CR I2 L2 (o_type A w n).2 → post (some (.int (o_type A w n).1)) I2 L2
  | _ => False
def sp_RP_type : Nat → am_Sp := fun i => match i with
  | 115 => T_RP_isTypeable
  | 119 => T_TP_add
  | _ => am_no
set_option maxRecDepth 100000 in
set_option maxHeartbeats 4000000 in
theorem ok_RP_type : am_Ok am_SX sp_RP_type false k_RP_type 4 T_RP_type := by
  intro vs I L post h
  unfold T_RP_type at h
  split at h
  · rename_i o w n
    obtain ⟨rfl, A, hC, h⟩ := h
    refine ⟨Nat.le_of_ble_eq_true rfl, fun G2 hG2 => ?_⟩
    obtain ⟨G, K, hk, tn, tt, ln, sz, it⟩ := A
    obtain ⟨hV, hR, hKr, hk7, hT, hS, hSh⟩ := id hC
    have hW : WG G := hV.1
    have h12 := hW.1
    dsimp only [o_type] at h
    by_cases hv : (1 ≤ n ∧ n ≤ 8) ∧ o_tyB w n.toNatClampNeg = true
    · rw [if_neg (fun q => q hv)] at h
      obtain ⟨m, hm, rfl⟩ := am_rng (n := 9) (by omega) (Int32.le_trans (by decide) hv.1.1) (Int32.lt_of_le_of_lt hv.1.2 (by decide))
      have hm1 : 1 ≤ m := by
        have q := hv.1.1
        have e1 : (1 : Int32) = nI 1 := rfl
        rw [e1, nI_leI (by omega) (by omega)] at q
        exact q
      have hall := o_tyB_iff.mp hv.2
      have cm : (nI m).toNatClampNeg = m := nI_clamp (by omega)
      rw [cm] at hall
      rw [cm] at h
      refine hG2 [] 100 0 _ _ _ _ (am_nt (am_bp hv) (And.intro (rfl) (Exists.intro (tn) (Exists.intro (tt) (Exists.intro (m) (And.intro (hT) (And.intro (hV.2.2.1) (And.intro (hm1) (And.intro (by omega) (And.intro (rfl) (And.intro (hall) (And.intro (fun hf => ?_) (fun hf I2 hT2 hI2 => ?_)))))))))))))
      · rw [if_pos hf] at h
        exact am_t rfl (h I L hC)
      · rw [if_neg hf] at h
        refine am_f (by decide) ?_
        show post (some (.int (I2 19 1))) I2 L
        rw [hT2.1]
        obtain ⟨V, hS⟩ := hS
        refine h I2 L ⟨⟨hV.1, hV.2.1, by omega, fun j hj => ?_, hV.2.2.2.2⟩, RC_fr hR (fun a h1 h2 => hI2 a (by omega) (by omega)) rfl, RC_fr hKr (fun a h1 h2 => hI2 a (by omega) (by omega)) rfl, by rw [hI2 0 (by omega) (by omega)]; exact hk7, hT2, ⟨V, SC_fr hS (by rw [hI2 22 (by omega) (by omega)]) (hI2 24 (by omega) (by omega)) rfl⟩, SHc_fr hSh (fun a h1 h2 => hI2 a (by omega) (by omega)) (fun _ _ _ => rfl)⟩
        unfold o_tt
        split
        · rename_i hjt; exact hV.2.2.2.1 j hjt
        · exact hall _ (by omega)
    · rw [if_pos hv] at h
      exact hG2 [] 100 0 _ _ _ _ (am_nf (am_bn hv) (h I L hC))
  · exact h.elim
