/-! THE REFERENCE: which stones may be struck -/
def m_fi : Option Nat → Int32
  | some m => nI m
  | none => -4
theorem m_fi_4 {x : Option Nat} (h : ∀ m, x = some m → m < 256) : m_fi x = -4 ↔ x = none := by
  cases x with
  | none => exact ⟨fun _ => rfl, fun _ => rfl⟩
  | some m => exact ⟨fun z => absurd (show nI m < 0 by rw [show nI m = -4 from z]; decide) (nI_pos (by have := h m rfl; omega)), fun z => by cases z⟩
theorem g_ch_lt {d : Nat → Nat} {E : Nat → Bool} {n m : Nat} (h : g_ch d E n = some m) : m < n := by
  rcases g_ch_spec d E n with ⟨z, _⟩ | ⟨b, z1, z2, _⟩
  · rw [h] at z; cases z
  · rw [h] at z1; cases z1; exact z2
def T_MD_struck : am_Sp := fun vs I L post => match vs with
  | [.ref o, .int x, .int y, .int z] => o = 0 ∧ ∃ A c, MR I L A c ∧ c + 4096 ≤ 1073741824 ∧ ∀ (I2 : am_I) (L2 : am_J) (c2 : Nat), c2 ≤ c + 4096 → MR I2 L2 (o_struck A x y z).2 c2 → post (some (.int (o_struck A x y z).1)) I2 L2
  | _ => False
def sp_MD_struck : Nat → am_Sp := fun i => match i with
  | 62 => T_MD_in
  | 66 => T_MD_isPlace
  | 74 => T_MD_ones
  | 158 => T_MD_layWays
  | 161 => T_MD_go
  | 165 => T_MD_isKind
  | _ => am_no
set_option maxRecDepth 100000 in
set_option maxHeartbeats 4000000 in
theorem ok_MD_struck : am_Ok am_SM sp_MD_struck false k_MD_struck 6 T_MD_struck := by
  intro vs I L post h
  unfold T_MD_struck at h
  split at h
  · rename_i o x y z
    obtain ⟨rfl, A, c, hC, hc, h⟩ := h
    refine ⟨Nat.le_of_ble_eq_true rfl, fun G2 hG2 => ?_⟩
    obtain ⟨G, K, hk, tn, tt, ln, sz, it⟩ := A
    obtain ⟨hV, hM, hK, hk1, htn, htt, hMS, hSh⟩ := id hC
    have hW : WG G := hV.1
    have h12 := hW.1
    dsimp only [o_struck] at h
    by_cases hx : 0 ≤ x ∧ x < 4
    · by_cases hy : 0 ≤ y ∧ y < 8
      · by_cases hz : 0 ≤ z ∧ z < 2
        · rw [if_neg (by rintro (q | q | q); exact q hx; exact q hy; exact q hz)] at h
          obtain ⟨kind, hk4, rfl⟩ := am_rng (n := 4) (by omega) hx.1 hx.2
          obtain ⟨f, hf8, rfl⟩ := am_rng (n := 8) (by omega) hy.1 hy.2
          rw [nI_clamp (by omega), nI_clamp (by omega)] at h
          have h : ∀ (I2 : am_I) (c2 : Nat), c2 ≤ c + 4096 → MR I2 L (G, K, hk, tn, tt, ln, sz, it) c2 → post (some (.int (m_fi (g_ch (fun m => g_pc m 12) (g_sp G kind f (decide (z = 1))) (256))))) I2 L := fun I2 c2 hc2 hm => by
            have h := h I2 L c2 hc2 hm
            cases e : (g_ch (fun m => g_pc m 12) (g_sp G kind f (decide (z = 1))) (256)) with
            | none => rw [e] at h; exact h
            | some m => rw [e] at h; exact h
          have h26 : G 26 < 2 ^ 8 := hW.2.2.2.2.2.2.1
          have loop : ∀ d k c1 (I1 : am_I), 256 - k = d → k ≤ 256 → c1 ≤ c + k → MR I1 L (G, K, hk, tn, tt, ln, sz, it) c1 → LW I1 G → G2 37 [some (.ref 0), some (.int (nI kind)), some (.int (nI f)), some (.int z), some (.int (m_fi (g_ch (fun m => g_pc m 12) (g_sp G kind f (decide (z = 1))) (k)))), some (.int (nI k))] [] I1 L := by
            intro d
            induction d with
            | zero =>
              intro k c1 I1 hd hk2 hc1 hC1 hLW
              have e : k = 256 := by omega
              subst e
              exact hG2 [] 100 37 _ _ _ _ (am_nt (am_nlt (Nat.le_refl 256) rfl) (h I1 c1 (by omega) hC1))
            | succ d ih =>
              intro k c1 I1 hd hk2 hc1 hC1 hLW
              obtain ⟨hV1, hM1, hK1, hk11, htn1, htt1, hMS1, hSh1⟩ := id hC1
              have w1 : ∀ i : Nat, i < 45 → I1 1 i = nI (G i) := fun i hi => RM_i hM1 i hi
              have hk256 : k < 256 := by omega
              have hlt := fun m => @g_ch_lt (fun m => g_pc m 12) (g_sp G kind f (decide (z = 1))) k m
              have hpl := g_pc_le k 12
              have next : ∀ (I3 : am_I) (c3 : Nat), c3 ≤ c + (k + 1) → MR I3 L (G, K, hk, tn, tt, ln, sz, it) c3 → LW I3 G → ∀ v : Int32, v = m_fi (g_ch (fun m => g_pc m 12) (g_sp G kind f (decide (z = 1))) (k + 1)) → G2 139 [some (.ref 0), some (.int (nI kind)), some (.int (nI f)), some (.int z), some (.int (v)), some (.int (nI k))] [] I3 L := by
                intro I3 c3 hc3 hC3 hL3 v hv
                subst hv
                refine hG2 [(37, [])] 100 139 _ _ _ _ ?_
                show G2 37 [some (.ref 0), some (.int (nI kind)), some (.int (nI f)), some (.int z), some (.int (m_fi (g_ch (fun m => g_pc m 12) (g_sp G kind f (decide (z = 1))) (k + 1)))), some (.int (nI k + 1))] [] I3 L
                rw [nI_1]
                exact ih (k + 1) c3 I3 (by omega) (by omega) hc3 hC3 hL3
              have same : ¬ ((g_sp G kind f (decide (z = 1))) k = true ∧ ((g_ch (fun m => g_pc m 12) (g_sp G kind f (decide (z = 1))) (k)) = none ∨ ∃ b, (g_ch (fun m => g_pc m 12) (g_sp G kind f (decide (z = 1))) (k)) = some b ∧ g_pc k 12 < g_pc b 12)) → m_fi (g_ch (fun m => g_pc m 12) (g_sp G kind f (decide (z = 1))) (k)) = m_fi (g_ch (fun m => g_pc m 12) (g_sp G kind f (decide (z = 1))) (k + 1)) := by
                intro hn
                congr 1
                simp only [g_ch]
                cases e : (g_ch (fun m => g_pc m 12) (g_sp G kind f (decide (z = 1))) (k)) with
                | none => rw [if_neg (fun q => hn ⟨q.1, Or.inl e⟩)]
                | some b => dsimp only; rw [if_neg (fun q => hn ⟨q.1, Or.inr ⟨b, e, q.2⟩⟩)]
              have take : (g_sp G kind f (decide (z = 1))) k = true → ((g_ch (fun m => g_pc m 12) (g_sp G kind f (decide (z = 1))) (k)) = none ∨ ∃ b, (g_ch (fun m => g_pc m 12) (g_sp G kind f (decide (z = 1))) (k)) = some b ∧ g_pc k 12 < g_pc b 12) → nI k = m_fi (g_ch (fun m => g_pc m 12) (g_sp G kind f (decide (z = 1))) (k + 1)) := by
                intro hE hn
                have e2 : (g_ch (fun m => g_pc m 12) (g_sp G kind f (decide (z = 1))) (k + 1)) = some k := by
                  simp only [g_ch]
                  rcases hn with e | ⟨b, e, hb⟩
                  · rw [e]; dsimp only; rw [if_pos ⟨hE, show g_pc k 12 < 10000 by omega⟩]
                  · rw [e]; dsimp only; rw [if_pos ⟨hE, hb⟩]
                rw [e2]; rfl
              have hdl : g_dif k (G 26) < 2 ^ 8 := g_dif_lt (n := 8) hk256
              refine hG2 [(139, []), (80, [])] 100 37 _ _ _ _ (am_nf (am_lt hk256 rfl) (And.intro (am_vin (n := 26) (by decide) rfl) ?_))
              show (¬ nI k &&& (I1 1 26 ^^^ (-1)) = 0 → _) ∧ (nI k &&& (I1 1 26 ^^^ (-1)) = 0 → _)
              rw [w1 26 (by omega), g_dif_I]
              by_cases h1 : g_dif k (G 26) = 0
              · refine am_nf (by rw [h1]; rfl) ?_
                -- the journey without these stones
                have goes : ((g_ch (fun m => g_pc m 12) (g_sp G kind f (decide (z = 1))) (k)) = none ∨ ∃ b, (g_ch (fun m => g_pc m 12) (g_sp G kind f (decide (z = 1))) (k)) = some b ∧ g_pc k 12 < g_pc b 12) → G2 80 [some (.ref 0), some (.int (nI kind)), some (.int (nI f)), some (.int z), some (.int (m_fi (g_ch (fun m => g_pc m 12) (g_sp G kind f (decide (z = 1))) (k)))), some (.int (nI k))] [] I1 L := by
                  intro hfo
                  have hX : JX G kind (g_dif (G 26) k) f := JX_dif hW hk4 hf8
                  refine hG2 [(139, [])] 100 80 _ _ _ _ (And.intro (am_vin (n := 44) (by decide) rfl) (And.intro (am_vin (n := 26) (by decide) rfl) (And.intro (rfl) (Exists.intro (G) (Exists.intro (kind) (Exists.intro (f) (Exists.intro (G 44) (Exists.intro (g_dif (G 26) k) (Exists.intro (c1) (And.intro (hX) (And.intro (hM1) (And.intro (rfl) (And.intro (rfl) (And.intro (w1 44 (by omega)) (And.intro (by rw [show I1 1 (26 : Int32).toNatClampNeg = nI (G 26) from w1 26 (by omega)]; exact g_dif_I _ _) (And.intro (hLW) (And.intro (hMS1) (And.intro (by omega) (fun n I2 n1 n2 h15 h16 h17 h18 hst hms hgf => ?_)))))))))))))))))))
                  have e := g_T_of hX n1 n2
                  subst e
                  have hC2 : MR I2 L (G, K, hk, tn, tt, ln, sz, it) (c1 + 1) := MR_GF hC1 (fun a a0 _ a8 a9 a10 _ _ => hgf.1 a a0 a8 a9 a10) ⟨hgf.2 1 (by omega) (by omega) (by omega) (by omega) (by omega), hgf.2 3 (by omega) (by omega) (by omega) (by omega) (by omega)⟩ hms
                  have hL2 : LW I2 G := fun a b ha hb => by rw [hgf.1 7 (by omega) (by omega) (by omega) (by omega)]; exact hLW a b ha hb
                  have nx := next I2 (c1 + 1) (by omega) hC2 hL2
                  have h4 := g_end_lt G (g_S G kind (G 44) (g_dif (G 26) k) f) (g_T G kind (G 44) (g_dif (G 26) k) f)
                  have hsp : (g_sp G kind f (decide (z = 1))) k = true ↔ (g_end G (g_S G kind (G 44) (g_dif (G 26) k) f) (g_T G kind (G 44) (g_dif (G 26) k) f) = 0 ↔ z = 1) := by
                    unfold g_sp
                    rw [h1]
                    simp only [decide_true, Bool.true_and, beq_iff_eq, decide_eq_decide]
                  by_cases he : g_end G (g_S G kind (G 44) (g_dif (G 26) k) f) (g_T G kind (G 44) (g_dif (G 26) k) f) = 0
                  · refine am_nf (show I2 0 16 = 0 by rw [h16, he]; rfl) ?_
                    by_cases z1 : z = 1
                    · exact am_nf z1 (am_nf rfl (nx _ (take (hsp.mpr ⟨fun _ => z1, fun _ => he⟩) hfo)))
                    · exact am_nt z1 (am_nt (by decide) (nx _ (same (fun q => z1 ((hsp.mp q.1).mp he)))))
                  · refine am_nt (show ¬ I2 0 16 = 0 by rw [h16]; exact nI_ne0 (by omega) (by omega)) ?_
                    by_cases z1 : z = 1
                    · exact am_nf z1 (am_nt (by decide) (nx _ (same (fun q => he ((hsp.mp q.1).mpr z1)))))
                    · exact am_nt z1 (am_nf rfl (nx _ (take (hsp.mpr ⟨fun q => absurd q he, fun q => absurd q z1⟩) hfo)))
                have h4i := m_fi_4 (x := (g_ch (fun m => g_pc m 12) (g_sp G kind f (decide (z = 1))) (k))) (fun m hm => by have := hlt m hm; omega)
                cases e : (g_ch (fun m => g_pc m 12) (g_sp G kind f (decide (z = 1))) (k)) with
                | none => 
                  rw [e] at goes
                  exact am_t rfl (goes (Or.inl rfl))
                | some b =>
                  rw [e] at goes h4i same
                  have hb := hlt b e
                  have hpb := g_pc_le b 12
                  refine am_f (fun q => by have := h4i.mp q; cases this) (Exists.intro k (And.intro rfl (Exists.intro b (And.intro rfl ?_))))
                  by_cases h5 : g_pc k 12 < g_pc b 12
                  · exact am_nf (nI_lt h5 (by omega)) (goes (Or.inr ⟨b, rfl, h5⟩))
                  · refine am_nt (nI_nlt (by omega) (by omega)) (next I1 c1 (by omega) hC1 hLW _ (same ?_))
                    rintro ⟨_, q | ⟨b2, q, q2⟩⟩
                    · cases q
                    · cases q; exact h5 q2
              · refine am_nt (nI_ne0 (by omega) (by omega)) (next I1 c1 (by omega) hC1 hLW _ (same (fun q => h1 ?_)))
                have := q.1
                unfold g_sp at this
                simp only [Bool.and_eq_true, decide_eq_true_eq] at this
                exact this.1
          refine hG2 [(37, [])] 100 0 _ _ _ _ (am_f (am_bp hx) (am_f (am_bp hy) (am_nt (am_bp ((m_in (hi := 1) (hi1 := 2) rfl rfl).mpr hz)) (And.intro (rfl) (Exists.intro (G) (And.intro (hW) (And.intro (hM) (fun I1 h7 ho => ?_))))))))
          show G2 37 [some (.ref 0), some (.int (nI kind)), some (.int (nI f)), some (.int z), some (.int (m_fi (g_ch (fun m => g_pc m 12) (g_sp G kind f (decide (z = 1))) (0)))), some (.int (nI 0))] [] I1 L
          refine loop 256 0 c I1 (by omega) (by omega) (by omega) (MR_GF hC (fun a _ a7 _ _ _ _ _ => ho a a7) ⟨by rw [ho 0 (by omega)], by rw [ho 0 (by omega)]⟩ ⟨by rw [ho 0 (by omega)]; exact hMS.1, fun s hs => by rw [ho 10 (by omega)]; exact hMS.2 s hs⟩) h7
        · rw [if_pos (Or.inr (Or.inr hz))] at h
          exact hG2 [] 100 0 _ _ _ _ (am_f (am_bp hx) (am_f (am_bp hy) (am_nf (am_bn (fun q => hz ((m_in (hi := 1) (hi1 := 2) rfl rfl).mp q))) (h I L c (by omega) hC))))
      · rw [if_pos (Or.inr (Or.inl hy))] at h
        exact hG2 [] 100 0 _ _ _ _ (am_f (am_bp hx) (am_t (am_bn hy) (h I L c (by omega) hC)))
    · rw [if_pos (Or.inl hx)] at h
      exact hG2 [] 100 0 _ _ _ _ (am_t (am_bn hx) (h I L c (by omega) hC))
  · exact h.elim
