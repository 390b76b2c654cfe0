/-! THE CLASS: which stones may be struck -/
def g_dif (a b : Nat) : Nat := a ^^^ (a &&& b)
theorem g_dif_t (a b i : Nat) : (g_dif a b).testBit i = (a.testBit i && !b.testBit i) := by
  unfold g_dif
  rw [Nat.testBit_xor, Nat.testBit_and]
  cases a.testBit i <;> cases b.testBit i <;> rfl
theorem g_dif_I (a b : Nat) : nI a &&& (nI b ^^^ (-1)) = nI (g_dif a b) := by
  apply b_ext
  intro i hi
  rw [b_and, bt_not hi, bt_nI _ _ hi, bt_nI _ _ hi, bt_nI _ _ hi, g_dif_t]
theorem g_dif_lt {a b n : Nat} (h : a < 2 ^ n) : g_dif a b < 2 ^ n := by
  apply Nat.lt_pow_two_of_testBit
  intro i hi
  rw [g_dif_t, Nat.testBit_lt_two_pow (Nat.lt_of_lt_of_le h (Nat.pow_le_pow_right (by omega) hi))]
  rfl
theorem g_dif_0 {a b : Nat} : g_dif a b = 0 ↔ ∀ i, a.testBit i = true → b.testBit i = true := by
  constructor
  · intro h i hi
    have := g_dif_t a b i
    rw [h, hi] at this
    simpa using this
  · intro h
    apply Nat.eq_of_testBit_eq
    intro i
    rw [g_dif_t, Nat.zero_testBit]
    cases e : a.testBit i with
    | false => rfl
    | true => rw [h i e]; rfl
theorem g_pc_mono {a b : Nat} (h : ∀ i, a.testBit i = true → b.testBit i = true) : ∀ n, g_pc a n ≤ g_pc b n := by
  intro n
  induction n with
  | zero => exact Nat.le_refl _
  | succ n ih =>
    simp only [g_pc]
    cases e : a.testBit n with
    | false => simp; omega
    | true => rw [h n e]; simp; omega
theorem g_pc_le (m : Nat) : ∀ n, g_pc m n ≤ n := by
  intro n
  induction n with
  | zero => exact Nat.le_refl _
  | succ n ih =>
    simp only [g_pc]
    split <;> omega
/-- a set of stones without which the journey ends as told -/
def g_sp (G : Nat → Nat) (kind f : Nat) (hm : Bool) (m : Nat) : Bool := decide (g_dif m (G 26) = 0) && (decide (g_end G (g_S G kind (G 44) (g_dif (G 26) m) f) (g_T G kind (G 44) (g_dif (G 26) m) f) = 0) == hm)
def o_struck : am_A → Int32 → Int32 → Int32 → Int32 × am_A
  | (G, R), kind, f, hm => if ¬ (0 ≤ kind ∧ kind < 4) ∨ ¬ (0 ≤ f ∧ f < 8) ∨ ¬ (0 ≤ hm ∧ hm < 2) then (-1, (G, R)) else ((match g_ch (fun m => g_pc m 12) (g_sp G kind.toNatClampNeg f.toNatClampNeg (decide (hm = 1))) 256 with
    | some m => nI m
    | none => -4), (G, R))
theorem JX_dif {G : Nat → Nat} (h : WG G) {kind f m : Nat} (hk : kind < 4) (hf : f < 8) : JX G kind (g_dif (G 26) m) f := ⟨h, hk, fun q hq => by
  rw [g_dif_t] at hq
  simp only [Bool.and_eq_true] at hq
  exact hq.1, hf⟩
def T_RP_struckOfSize : am_Sp := fun vs I L post => match vs with
  | [.ref o, .int x, .int y, .int z, .int u] => o = 0 ∧ ∃ A kind f n hm, kind < 4 ∧ f < 8 ∧ CR I L A ∧ x = nI kind ∧ y = nI f ∧ z = am_b (hm = true) ∧ u = nI n ∧ n < 2147483647 ∧ ∀ (v : Int32) (I2 : am_I) (L2 : am_J), ((∃ m, m < 256 ∧ g_sp A.1 kind f hm m = true ∧ g_pc m 12 = n ∧ (∀ q, q < m → g_sp A.1 kind f hm q = true → ¬ g_pc q 12 = n) ∧ v = nI m) ∨ ((∀ q, q < 256 → g_sp A.1 kind f hm q = true → ¬ g_pc q 12 = n) ∧ v = -1)) → CR I2 L2 A → post (some (.int v)) I2 L2
  | _ => False
def sp_RP_struckOfSize : Nat → am_Sp := fun i => match i with
  | 91 => T_IN_bitCount
  | 227 => T_JN_begin
  | 231 => T_JN_goOn
  | _ => am_no
set_option maxRecDepth 100000 in
set_option maxHeartbeats 4000000 in
theorem ok_RP_struckOfSize : am_Ok am_SX sp_RP_struckOfSize false k_RP_struckOfSize 6 T_RP_struckOfSize := by
  intro vs I L post h
  unfold T_RP_struckOfSize at h
  split at h
  · rename_i o x y z u
    obtain ⟨rfl, A, kind, f, n, hm, hk4, hf8, hC, rfl, rfl, rfl, rfl, hn, h⟩ := h
    refine ⟨Nat.le_of_ble_eq_true rfl, fun G2 hG2 => ?_⟩
    have loop : ∀ d k (I1 : am_I) (L1 : am_J), 256 - k = d → k ≤ 256 → CR I1 L1 A → (∀ q, q < k → g_sp A.1 kind f hm q = true → ¬ g_pc q 12 = n) → G2 3 [some (.ref 0), some (.int (nI kind)), some (.int (nI f)), some (.int (am_b (hm = true))), some (.int (nI n)), some (.int (nI k))] [] I1 L1 := by
      intro d
      induction d with
      | zero =>
        intro k I1 L1 hd hk hC1 hq
        have e : k = 256 := by omega
        subst e
        exact hG2 [(3, [])] 100 3 _ _ _ _ (am_nt (am_nlt (Nat.le_refl 256) rfl) (h _ _ _ (Or.inr ⟨hq, rfl⟩) hC1))
      | succ d ih =>
        intro k I1 L1 hd hk hC1 hq
        obtain ⟨G, K, hk2, tn, tt, ln, sz, it⟩ := A
        obtain ⟨hV, hR1, hKr, hk7, hT, ⟨V1, hS1⟩, hSh⟩ := id hC1
        have hW : WG G := hV.1
        have h26 : G 26 < 2 ^ 8 := hW.2.2.2.2.2.2.1
        have hX : JX G kind (g_dif (G 26) k) f := JX_dif hW hk4 hf8
        have hr8 : I1 1 8 = nI (G 26) := hR1.2.2.2.1
        have hk256 : k < 256 := by omega
        -- the next set
        have next : ∀ (I3 : am_I) (L3 : am_J), CR I3 L3 (G, K, hk2, tn, tt, ln, sz, it) → ¬ (g_sp G kind f hm k = true ∧ g_pc k 12 = n) → G2 106 [some (.ref 0), some (.int (nI kind)), some (.int (nI f)), some (.int (am_b (hm = true))), some (.int (nI n)), some (.int (nI k))] [] I3 L3 := by
          intro I3 L3 hC3 hno
          refine hG2 [(3, [])] 100 106 _ _ _ _ ?_
          show G2 3 [some (.ref 0), some (.int (nI kind)), some (.int (nI f)), some (.int (am_b (hm = true))), some (.int (nI n)), some (.int (nI k + 1))] [] I3 L3
          rw [nI_1]
          refine ih (k + 1) I3 L3 (by omega) (by omega) hC3 (fun q hq1 hq2 => ?_)
          by_cases e : q = k
          · subst e; exact fun z => hno ⟨hq2, z⟩
          · exact hq q (by omega) hq2
        refine hG2 [(3, []), (106, [])] 100 3 _ _ _ _ (am_nf (am_lt hk256 rfl) ?_)
        show (¬ nI k &&& (I1 1 8 ^^^ (-1)) = 0 → _) ∧ (nI k &&& (I1 1 8 ^^^ (-1)) = 0 → _)
        rw [hr8, g_dif_I]
        have hdl : g_dif k (G 26) < 2 ^ 8 := g_dif_lt (n := 8) hk256
        by_cases h1 : g_dif k (G 26) = 0
        · refine am_nf (by rw [h1]; rfl) ?_
          show (f_bc (nI k) = nI n → _) ∧ (¬ f_bc (nI k) = nI n → _)
          rw [f_bc_nI k (by omega)]
          have hpl := g_pc_le k 12
          by_cases h2 : g_pc k 12 = n
          · refine am_t (by rw [h2]) (And.intro (rfl) (And.intro (rfl) (Exists.intro (G) (Exists.intro (kind) (Exists.intro (G 44) (Exists.intro (g_dif (G 26) k) (Exists.intro (f) (Exists.intro (V1) (And.intro (hX) (And.intro (hR1) (And.intro (rfl) (And.intro (rfl) (And.intro (hR1.2.2.1) (And.intro (by rw [hR1.2.2.2.1]; exact g_dif_I _ _) (And.intro (hS1) (fun I2 L2 hj1 hf1 => ?_))))))))))))))))
            refine (And.intro (rfl) (And.intro (rfl) (Exists.intro (G) (Exists.intro (kind) (Exists.intro (G 44) (Exists.intro (g_dif (G 26) k) (Exists.intro (f) (Exists.intro (0) (Exists.intro (32768) (And.intro (hX) (And.intro (FJ_RC hf1 (by omega) hR1) (And.intro (rfl) (And.intro (by omega) (And.intro (hj1) (fun i2 I3 L3 hi1 hi2 hi3 hj2 hf2 => ?_)))))))))))))))
            have hp : ∀ j, j < i2 → g_end G (g_S G kind (G 44) (g_dif (G 26) k) f) j = 3 := hj2.2.2.2.2.2.2.2.2.2.2
            have ht := g_T_spec (snow := G 44) hX
            have e := g_T_min hX hp (show i2 ≤ 32768 by omega) (by rcases hi3 with q | q; exact Or.inl (by omega); exact Or.inr q)
            have e2 : i2 = g_T G kind (G 44) (g_dif (G 26) k) f := by rw [e]; split <;> omega
            rw [e2] at hj2
            have h7 : I3 21 7 = nI (g_end G (g_S G kind (G 44) (g_dif (G 26) k) f) (g_T G kind (G 44) (g_dif (G 26) k) f)) := hj2.2.2.2.2.2.1
            have hC3 : CR I3 L3 (G, K, hk2, tn, tt, ln, sz, it) := CR_FJ hC1 (FJ_tr hf1 hf2) ⟨_, hj2.2.2.2.2.2.2.2.2.2.1⟩
            have h4 := g_end_lt G (g_S G kind (G 44) (g_dif (G 26) k) f) (g_T G kind (G 44) (g_dif (G 26) k) f)
            have hv : ∀ v : Int32, v = am_b (g_end G (g_S G kind (G 44) (g_dif (G 26) k) f) (g_T G kind (G 44) (g_dif (G 26) k) f) = 0) → (¬ v = am_b (hm = true) → G2 106 [some (.ref 0), some (.int (nI kind)), some (.int (nI f)), some (.int (am_b (hm = true))), some (.int (nI n)), some (.int (nI k))] [] I3 L3) ∧ (v = am_b (hm = true) → post (some (.int (nI k))) I3 L3) := by
              intro v hv
              have hiff : v = am_b (hm = true) ↔ g_sp G kind f hm k = true := by
                rw [hv]
                unfold g_sp
                rw [h1]
                cases hm <;> by_cases z : g_end G (g_S G kind (G 44) (g_dif (G 26) k) f) (g_T G kind (G 44) (g_dif (G 26) k) f) = 0 <;> simp [am_b, z]
              by_cases h3 : g_sp G kind f hm k = true
              · exact am_nf (hiff.mpr h3) (h _ _ _ (Or.inl ⟨k, hk256, h3, h2, hq, rfl⟩) hC3)
              · exact am_nt (fun z => h3 (hiff.mp z)) (next I3 L3 hC3 (fun z => h3 z.1))
            by_cases h3 : g_end G (g_S G kind (G 44) (g_dif (G 26) k) f) (g_T G kind (G 44) (g_dif (G 26) k) f) = 0
            · exact am_nf (by rw [h7, h3]; rfl) (hv 1 (am_b1 h3).symm)
            · exact am_nt (by rw [h7]; exact nI_ne0 (by omega) (by omega)) (hv 0 (am_b0 h3).symm)
          · exact am_f (fun z => h2 ((nI_eq (by omega) (by omega)).mp z)) (next I1 L1 hC1 (fun z => h2 z.2))
        · refine am_nt (nI_ne0 (by omega) (by omega)) (next I1 L1 hC1 (fun z => h1 ?_))
          have := z.1
          unfold g_sp at this
          simp only [Bool.and_eq_true, decide_eq_true_eq] at this
          exact this.1
    refine hG2 [(3, [])] 100 0 _ _ _ _ ?_
    exact loop 256 0 I L (by omega) (by omega) hC (fun q hq => by omega)
  · exact h.elim
def T_RP_struck : am_Sp := fun vs I L post => match vs with
  | [.ref o, .int x, .int y, .int z] => o = 0 ∧ ∃ A, CR I L A ∧ ∀ (I2 : am_I) (L2 : am_J), CR I2 L2 (o_struck A x y z).2 → post (some (.int (o_struck A x y z).1)) I2 L2
  | _ => False
def sp_RP_struck : Nat → am_Sp := fun i => match i with
  | 47 => T_RP_isPlace
  | 91 => T_IN_bitCount
  | 103 => T_RP_isFrom0
  | 140 => T_RP_isKind
  | 169 => T_RP_struckOfSize
  | _ => am_no
set_option maxRecDepth 100000 in
set_option maxHeartbeats 4000000 in
theorem ok_RP_struck : am_Ok am_SX sp_RP_struck false k_RP_struck 6 T_RP_struck := by
  intro vs I L post h
  unfold T_RP_struck at h
  split at h
  · rename_i o x y z
    obtain ⟨rfl, A, hC, h⟩ := h
    refine ⟨Nat.le_of_ble_eq_true rfl, fun G2 hG2 => ?_⟩
    obtain ⟨G, K, hk, tn, tt, ln, sz, it⟩ := A
    obtain ⟨hV, hR, hKr, hk7, hT, hS, hSh⟩ := id hC
    have hW : WG G := hV.1
    have h12 := hW.1
    dsimp only [o_struck] at h
    by_cases hx : 0 ≤ x ∧ x < 4
    · by_cases hy : 0 ≤ y ∧ y < 8
      · by_cases hz : 0 ≤ z ∧ z < 2
        · rw [if_neg (by rintro (q | q | q); exact q hx; exact q hy; exact q hz)] at h
          obtain ⟨kind, hk4, rfl⟩ := am_rng (n := 4) (by omega) hx.1 hx.2
          obtain ⟨f, hf8, rfl⟩ := am_rng (n := 8) (by omega) hy.1 hy.2
          rw [nI_clamp (by omega), nI_clamp (by omega)] at h
          refine hG2 [(27, [])] 100 0 _ _ _ _ (am_f (am_bp hx) (am_f (am_bp hy) (am_nt (am_bp hz) ?_)))
          have h26 : G 26 < 2 ^ 8 := hW.2.2.2.2.2.2.1
          have hpm := g_pc_le (G 26) 12
          have hfin : ∀ (I2 : am_I) (L2 : am_J), CR I2 L2 (G, K, hk, tn, tt, ln, sz, it) → g_ch (fun m => g_pc m 12) (g_sp G kind f (decide (z = 1))) 256 = none → post (some (.int (-4))) I2 L2 := fun I2 L2 hC2 e => by
            rw [e] at h; exact h I2 L2 hC2
          have hfin2 : ∀ (I2 : am_I) (L2 : am_J) (m : Nat), CR I2 L2 (G, K, hk, tn, tt, ln, sz, it) → g_ch (fun m => g_pc m 12) (g_sp G kind f (decide (z = 1))) 256 = some m → post (some (.int (nI m))) I2 L2 := fun I2 L2 m hC2 e => by
            rw [e] at h; exact h I2 L2 hC2
          have loop : ∀ d k (I1 : am_I) (L1 : am_J) (x5 : Option Value), g_pc (G 26) 12 + 1 - k = d → k ≤ g_pc (G 26) 12 + 1 → CR I1 L1 (G, K, hk, tn, tt, ln, sz, it) → (∀ q, q < 256 → g_sp G kind f (decide (z = 1)) q = true → k ≤ g_pc q 12) → G2 27 [some (.ref 0), some (.int (nI kind)), some (.int (nI f)), some (.int z), some (.int (nI k)), x5] [] I1 L1 := by
            intro d
            induction d with
            | zero =>
              intro k I1 L1 x5 hd hk1 hC1 hq
              have hr8 : I1 1 8 = nI (G 26) := hC1.2.1.2.2.2.1
              refine hG2 [] 100 27 _ _ _ _ ?_
              show (f_bc (I1 1 8) < nI k → _) ∧ (¬ f_bc (I1 1 8) < nI k → _)
              rw [hr8, f_bc_nI _ (by omega)]
              refine am_t (nI_lt (by omega) (by omega)) (hfin I1 L1 hC1 (g_ch_none (fun q hq1 hq2 => ?_)))
              have h1 := hq q hq1 hq2
              unfold g_sp at hq2
              simp only [Bool.and_eq_true, decide_eq_true_eq] at hq2
              have h2 := g_pc_mono (g_dif_0.mp hq2.1) 12
              omega
            | succ d ih =>
              intro k I1 L1 x5 hd hk1 hC1 hq
              have hr8 : I1 1 8 = nI (G 26) := hC1.2.1.2.2.2.1
              refine hG2 [(60, [])] 100 27 _ _ _ _ ?_
              show (f_bc (I1 1 8) < nI k → _) ∧ (¬ f_bc (I1 1 8) < nI k → _)
              rw [hr8, f_bc_nI _ (by omega)]
              refine am_f (nI_nlt (by omega) (by omega)) ?_
              have aft : ∀ (v : Int32) (I2 : am_I) (L2 : am_J), ((∃ m, m < 256 ∧ g_sp G kind f (decide (z = 1)) m = true ∧ g_pc m 12 = k ∧ (∀ q, q < m → g_sp G kind f (decide (z = 1)) q = true → ¬ g_pc q 12 = k) ∧ v = nI m) ∨ ((∀ q, q < 256 → g_sp G kind f (decide (z = 1)) q = true → ¬ g_pc q 12 = k) ∧ v = -1)) → CR I2 L2 (G, K, hk, tn, tt, ln, sz, it) → G2 60 [some (.ref 0), some (.int (nI kind)), some (.int (nI f)), some (.int z), some (.int (nI k)), x5] [.int v] I2 L2 := by
                intro v I2 L2 hv hC2
                refine hG2 [(27, [])] 100 60 _ _ _ _ ?_
                rcases hv with ⟨m, hm1, hm2, hm3, hm4, rfl⟩ | ⟨hv, rfl⟩
                · refine am_f (nI_pos (by omega)) (hfin2 I2 L2 m hC2 (g_ch_some hm1 hm2 (show g_pc m 12 < 10000 by omega) (fun q hq1 hq2 => ?_)))
                  have h1 := hq q hq1 hq2
                  refine ⟨show g_pc m 12 ≤ g_pc q 12 by omega, fun e => ?_⟩
                  have e : g_pc q 12 = g_pc m 12 := e
                  rcases Nat.lt_or_ge q m with w | w
                  · exact absurd (e.trans hm3) (hm4 q w hq2)
                  · exact w
                · refine am_t (by decide) ?_
                  show G2 27 [some (.ref 0), some (.int (nI kind)), some (.int (nI f)), some (.int z), some (.int (nI k + 1)), some (.int (-1))] [] I2 L2
                  rw [nI_1]
                  refine ih (k + 1) I2 L2 _ (by omega) (by omega) hC2 (fun q hq1 hq2 => ?_)
                  have h1 := hq q hq1 hq2
                  have h2 := hv q hq1 hq2
                  omega
              by_cases hz1 : z = 1
              · refine am_nf hz1 ?_
                refine (And.intro (rfl) (Exists.intro ((G, K, hk, tn, tt, ln, sz, it)) (Exists.intro (kind) (Exists.intro (f) (Exists.intro (k) (Exists.intro (decide (z = 1)) (And.intro (hk4) (And.intro (hf8) (And.intro (hC1) (And.intro (rfl) (And.intro (rfl) (And.intro ((am_b1 (decide_eq_true hz1)).symm) (And.intro (rfl) (And.intro (by omega) (fun v I2 L2 hv hC2 => ?_)))))))))))))))
                exact aft v I2 L2 hv hC2
              · refine am_nt hz1 ?_
                refine (And.intro (rfl) (Exists.intro ((G, K, hk, tn, tt, ln, sz, it)) (Exists.intro (kind) (Exists.intro (f) (Exists.intro (k) (Exists.intro (decide (z = 1)) (And.intro (hk4) (And.intro (hf8) (And.intro (hC1) (And.intro (rfl) (And.intro (rfl) (And.intro ((am_b0 (fun q => hz1 (of_decide_eq_true q))).symm) (And.intro (rfl) (And.intro (by omega) (fun v I2 L2 hv hC2 => ?_)))))))))))))))
                exact aft v I2 L2 hv hC2
          exact loop _ 0 I L none rfl (by omega) hC (fun q _ _ => Nat.zero_le _)
        · rw [if_pos (Or.inr (Or.inr hz))] at h
          exact hG2 [] 100 0 _ _ _ _ (am_f (am_bp hx) (am_f (am_bp hy) (am_nf (am_bn hz) (h I L hC))))
      · rw [if_pos (Or.inr (Or.inl hy))] at h
        exact hG2 [] 100 0 _ _ _ _ (am_f (am_bp hx) (am_t (am_bn hy) (h I L hC)))
    · rw [if_pos (Or.inl hx)] at h
      exact hG2 [] 100 0 _ _ _ _ (am_t (am_bn hx) (h I L hC))
  · exact h.elim
