/-! THE REFERENCE: typing -/
theorem bl_i2l (x : Int32) {i : Nat} (hi : i < 64) : bl x.toInt64 i = if i < 32 then bt x i else bt x 31 := by
  unfold bl bt
  rw [Int32.toBitVec_toInt64, BitVec.getLsbD_signExtend, BitVec.msb_eq_getLsbD_last]
  simp [hi]
theorem bl_255 : ∀ i, i < 64 → bl 255 i = decide (i < 8) := by decide +kernel
theorem m_byte (v : Int64) {k : Nat} (hk : k < 8) : (v >>> (((8 : Int32) * nI k).toInt64 &&& 63)) &&& 255 = (nI (o_by v k)).toInt64 := by
  have e := (o_by_I v k).1
  have hb : ∀ i, i < 32 → bt (nI (o_by v k)) i = (decide (i < 8) && bl v (8 * k + i)) := fun i hi => by rw [← e]; exact f_byte_bt v hk hi
  apply bl_ext
  intro i hi
  rw [bl_and, pk_m8, bl_sshr (8 * k) (by omega) v hi, bl_255 i hi, bl_i2l _ hi]
  by_cases h32 : i < 32
  · rw [if_pos h32, hb i h32]
    by_cases h8 : i < 8
    · rw [if_pos (by omega), Bool.and_comm]
    · simp [h8]
  · rw [if_neg h32, hb 31 (by omega)]
    have : ¬ i < 8 := by omega
    simp [this]
theorem m_l2i (x : Int32) : x.toInt64.toInt32 = x := by
  apply b_ext
  intro i hi
  rw [bt_l2i _ hi, bl_i2l _ (by omega), if_pos hi]
theorem m_in8 {x : Int32} : ((1 : Int64) ≤ x.toInt64 ∧ x.toInt64 ≤ 8) ↔ (1 ≤ x ∧ x ≤ 8) := by
  rw [show (1 : Int64) = (1 : Int32).toInt64 from by decide, show (8 : Int64) = (8 : Int32).toInt64 from by decide, fw_le, fw_le]
theorem m_inb2 {b : Nat} (hb : b < 256) : ((32 : Int64) ≤ (nI b).toInt64 ∧ (nI b).toInt64 ≤ 126) ↔ (32 ≤ b ∧ b ≤ 126) := by
  rw [show (32 : Int64) = (nI 32).toInt64 from by decide, show (126 : Int64) = (nI 126).toInt64 from by decide, fw_le, fw_le, nI_leI (by omega) (by omega), nI_leI (by omega) (by omega)]
/-- the reference's tape -/
def MT (I : am_I) (tn : Nat) (tt : Nat → Nat) : Prop := I 0 3 = nI tn ∧ ∀ j, j < tn → I 2 j = nI (tt j)
theorem MR_ty {I I2 : am_I} {L : am_J} {G K : Nat → Nat} {hk : Bool} {tn tn' : Nat} {tt tt' : Nat → Nat} {ln : Nat → Int32} {sz : Nat → Nat} {it : Nat → Nat → Int64} {c : Nat} (h : MR I L (G, K, hk, tn, tt, ln, sz, it) c) (hT : MT I2 tn' tt') (ht : tn' ≤ 100) (hb : ∀ j, j < tn' → 32 ≤ tt' j ∧ tt' j ≤ 126) (hI : ∀ a : Nat, a ≠ 0 → a ≠ 2 → I2 a = I a) (h0 : ∀ k : Nat, k ≠ 3 → I2 0 k = I 0 k) : MR I2 L (G, K, hk, tn', tt', ln, sz, it) c := by
  obtain ⟨hV, hM, hK, hk1, htn, htt, hMS, hSh⟩ := h
  refine ⟨⟨hV.1, hV.2.1, ht, hb, hV.2.2.2.2⟩, RM_fr hM (hI 1 (by omega) (by omega)), fun q => RM_fr (hK q) (hI 1 (by omega) (by omega)), by rw [h0 1 (by omega)]; exact hk1, hT.1, hT.2, ⟨by rw [h0 20 (by omega)]; exact hMS.1, fun s hs => by rw [hI 10 (by omega) (by omega)]; exact hMS.2 s hs⟩, fun s hs => ?_⟩
  rw [hI 13 (by omega) (by omega), hI 14 (by omega) (by omega)]
  exact hSh s hs
def T_MD_type : am_Sp := fun vs I L post => match vs with
  | [.ref o, .long v, .int n] => o = 0 ∧ ∃ A c, MR I L A c ∧ c + 4096 ≤ 1073741824 ∧ ∀ (I2 : am_I) (L2 : am_J) (c2 : Nat), c2 ≤ c + 4096 → MR I2 L2 (o_type A v n).2 c2 → post (some (.int (o_type A v n).1)) I2 L2
  | _ => False
def sp_MD_type : Nat → am_Sp := fun i => match i with
  | 62 => T_MD_in
  | _ => am_no
set_option maxRecDepth 100000 in
set_option maxHeartbeats 4000000 in
theorem ok_MD_type : am_Ok am_SM sp_MD_type false k_MD_type 5 T_MD_type := by
  intro vs I L post h
  unfold T_MD_type at h
  split at h
  · rename_i o v n
    obtain ⟨rfl, A, c, hC, hc, h⟩ := h
    refine ⟨Nat.le_of_ble_eq_true rfl, fun G2 hG2 => ?_⟩
    obtain ⟨G, K, hk, tn, tt, ln, sz, it⟩ := A
    obtain ⟨hV, hM, hK, hk1, htn, htt, hMS, hSh⟩ := id hC
    have hW : WG G := hV.1
    have h12 := hW.1
    dsimp only [o_type] at h
    have hB : am_b ((1 : Int64) ≤ n.toInt64 ∧ n.toInt64 ≤ 8) = am_b (1 ≤ n ∧ n ≤ 8) := am_bc m_in8
    by_cases hn : 1 ≤ n ∧ n ≤ 8
    · obtain ⟨m, hm, rfl⟩ := am_rng (n := 9) (by omega) (Int32.le_trans (by decide) hn.1) (Int32.lt_of_le_of_lt hn.2 (by decide))
      have hm1 : 1 ≤ m := (nI_leI (a := 1) (by omega) (by omega)).mp hn.1
      rw [nI_clamp (by omega)] at h
      have loop : ∀ d k, m - k = d → k ≤ m → (∀ j, j < k → 32 ≤ o_by v j ∧ o_by v j ≤ 126) → G2 17 [some (.ref 0), some (.long v), none, some (.int (nI m)), some (.int (nI k))] [] I L := by
        intro d
        induction d with
        | zero =>
          intro k hd hk2 hj
          have e : k = m := by omega
          subst e
          rw [if_neg (fun q => q ⟨hn, o_tyB_iff.mpr hj⟩)] at h
          have e60 : I 0 3 + nI k = nI (tn + k) := by rw [htn, nI_add]
          have t100 := hV.2.2.1
          by_cases hf : 100 < tn + k
          · rw [if_pos hf] at h
            refine hG2 [] 100 17 _ _ _ _ (am_nt (nI_nlt (Nat.le_refl k) (by omega)) ?_)
            show (¬ (100 : Int32) < I 0 3 + nI k → _) ∧ ((100 : Int32) < I 0 3 + nI k → _)
            rw [e60]
            exact am_nf (show nI 100 < _ from nI_lt hf (by omega)) (h I L c (by omega) hC)
          · rw [if_neg hf] at h
            have loop2 : ∀ c1 (I1 : am_I), c1 ≤ k → MT I1 (tn + (k - c1)) (o_tt tn tt v k) → (∀ a : Nat, a ≠ 0 → a ≠ 2 → I1 a = I a) → (∀ j : Nat, j ≠ 3 → I1 0 j = I 0 j) → G2 73 [some (.ref 0), some (.long v), none, some (.int (nI k)), some (.int (nI c1 - 1))] [] I1 L := by
              intro c1
              induction c1 with
              | zero =>
                intro I1 hc1 hT1 hI1 h01
                refine hG2 [] 100 73 _ _ _ _ (am_t (by decide) ?_)
                show post (some (.int (I1 0 3))) I1 L
                rw [hT1.1]
                refine h I1 L c (by omega) (MR_ty hC hT1 (by omega) (fun j hj3 => ?_) hI1 h01)
                unfold o_tt
                by_cases e3 : j < tn
                · rw [if_pos e3]; exact hV.2.2.2.1 j e3
                · rw [if_neg e3]; exact hj _ (by omega)
              | succ c1 ih =>
                intro I1 hc1 hT1 hI1 h01
                rw [nI_pred]
                have e1 : I1 0 3 = nI (tn + (k - (c1 + 1))) := hT1.1
                have hbb := hj c1 (by omega)
                refine hG2 [(73, [])] 100 73 _ _ _ _ (am_f (nI_pos (show c1 < 2 ^ 31 by omega)) (And.intro (show vp_in (I1 0 3) 100 by rw [e1]; exact am_vin (by omega) rfl) ?_))
                show G2 73 [some (.ref 0), some (.long v), none, some (.int (nI k)), some (.int (nI c1 + (-1)))] [] (am_ui (am_ui I1 2 (I1 0 3).toNatClampNeg ((v >>> (((8 : Int32) * nI c1).toInt64 &&& 63)) &&& 255).toInt32) 0 3 (am_ui I1 2 (I1 0 3).toNatClampNeg ((v >>> (((8 : Int32) * nI c1).toInt64 &&& 63)) &&& 255).toInt32 0 3 + 1)) L
                rw [am_uo (show (0 : Nat) ≠ 2 by omega), m_byte v (by omega), m_l2i, e1, nI_clamp (by omega), nI_1, show nI c1 + (-1) = nI c1 - 1 by grind]
                refine ih _ (by omega) ⟨?_, fun j hj3 => ?_⟩ (fun a h0 h2 => by rw [am_ui_o h0, am_ui_o h2]; exact hI1 a h0 h2) (fun j hj3 => by rw [am_uk hj3, am_uo (by omega)]; exact h01 j hj3)
                · rw [am_ui_e]; congr 1; omega
                · rw [am_uo (show (2 : Nat) ≠ 0 by omega)]
                  by_cases e3 : j = tn + (k - (c1 + 1))
                  · subst e3
                    rw [am_ui_e]
                    unfold o_tt
                    rw [if_neg (by omega), show k - 1 - (tn + (k - (c1 + 1)) - tn) = c1 by omega]
                  · rw [am_uk e3]
                    exact hT1.2 j (by omega)
            refine hG2 [(73, [])] 100 17 _ _ _ _ (am_nt (nI_nlt (Nat.le_refl k) (by omega)) ?_)
            show (¬ (100 : Int32) < I 0 3 + nI k → _) ∧ ((100 : Int32) < I 0 3 + nI k → _)
            rw [e60]
            refine am_nt (show ¬ nI 100 < _ from nI_nlt (by omega) (by omega)) ?_
            refine loop2 k I (Nat.le_refl k) ⟨by rw [htn]; congr 1; omega, fun j hj3 => ?_⟩ (fun _ _ _ => rfl) (fun _ _ => rfl)
            unfold o_tt
            rw [if_pos (by omega)]
            exact htt j (by omega)
        | succ d ih =>
          intro k hd hk2 hj
          obtain ⟨e, hb⟩ := o_by_I v k
          refine hG2 [(17, [])] 100 17 _ _ _ _ (am_nf (nI_lt (by omega) (by omega)) ?_)
          show (¬ am_b ((32 : Int64) ≤ (v >>> (((8 : Int32) * nI k).toInt64 &&& 63)) &&& 255 ∧ (v >>> (((8 : Int32) * nI k).toInt64 &&& 63)) &&& 255 ≤ 126) = 0 → _) ∧ (am_b ((32 : Int64) ≤ (v >>> (((8 : Int32) * nI k).toInt64 &&& 63)) &&& 255 ∧ (v >>> (((8 : Int32) * nI k).toInt64 &&& 63)) &&& 255 ≤ 126) = 0 → _)
          rw [m_byte v (by omega)]
          by_cases hok : 32 ≤ o_by v k ∧ o_by v k ≤ 126
          · refine am_nt (am_bp ((m_inb2 hb).mpr hok)) ?_
            show G2 17 [some (.ref 0), some (.long v), none, some (.int (nI m)), some (.int (nI k + 1))] [] I L
            rw [nI_1]
            refine ih (k + 1) (by omega) (by omega) (fun j hj2 => ?_)
            by_cases e3 : j = k
            · subst e3; exact hok
            · exact hj j (by omega)
          · rw [if_pos (fun q => hok (o_tyB_iff.mp q.2 k (by omega)))] at h
            exact am_nf (am_bn (fun q => hok ((m_inb2 hb).mp q))) (h I L c (by omega) hC)
      refine hG2 [(17, [])] 100 0 _ _ _ _ (am_nt (by rw [hB]; exact am_bp hn) ?_)
      exact loop m 0 (by omega) (by omega) (fun j hj => by omega)
    · rw [if_pos (fun q => hn q.1)] at h
      exact hG2 [] 100 0 _ _ _ _ (am_nf (by rw [hB]; exact am_bn hn) (h I L c (by omega) hC))
  · exact h.elim
