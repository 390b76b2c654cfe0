/-! THE CLASS: whole journeys -/
/-- the step at which a journey has ended -/
def g_T (G : Nat → Nat) (kind snow stones f : Nat) : Nat := g_lk (fun i => !decide (g_end G (g_S G kind snow stones f) i = 3)) 32769 0
theorem g_T_spec {G : Nat → Nat} {kind snow stones f : Nat} (hX : JX G kind stones f) : g_T G kind snow stones f ≤ 32768 ∧ ¬ g_end G (g_S G kind snow stones f) (g_T G kind snow stones f) = 3 ∧ ∀ j, j < g_T G kind snow stones f → g_end G (g_S G kind snow stones f) j = 3 := by
  rcases g_lk_spec (fun i => !decide (g_end G (g_S G kind snow stones f) i = 3)) 32769 0 with ⟨_, h⟩ | ⟨_, h2, h3, h4⟩
  · have := g_S_bound (snow := snow) (i := 32769) hX (fun j hj => by simpa using h j (by omega) (by omega))
    omega
  · unfold g_T
    exact ⟨by omega, by simpa using h3, fun j hj => by simpa using h4 j (by omega) hj⟩
theorem g_T_of {G : Nat → Nat} {kind snow stones f n : Nat} (hX : JX G kind stones f) (h1 : ¬ g_end G (g_S G kind snow stones f) n = 3) (h2 : ∀ j, j < n → g_end G (g_S G kind snow stones f) j = 3) : n = g_T G kind snow stones f := by
  obtain ⟨_, a, b⟩ := g_T_spec (snow := snow) hX
  rcases Nat.lt_trichotomy n (g_T G kind snow stones f) with z | z | z
  · exact absurd (b n z) h1
  · exact z
  · exact absurd (h2 _ z) a
/-- how far one gets in n steps -/
theorem g_T_min {G : Nat → Nat} {kind snow stones f n i : Nat} (hX : JX G kind stones f) (h2 : ∀ j, j < i → g_end G (g_S G kind snow stones f) j = 3) (hi : i ≤ n) (h : i = n ∨ ¬ g_end G (g_S G kind snow stones f) i = 3) : i = if g_T G kind snow stones f < n then g_T G kind snow stones f else n := by
  obtain ⟨_, a, b⟩ := g_T_spec (snow := snow) hX
  split
  · rename_i z
    rcases h with e | e
    · exact absurd (h2 _ (by omega)) a
    · exact g_T_of hX e h2
  · rename_i z
    rcases h with e | e
    · exact e
    · have := g_T_of hX e h2; omega
theorem JX_of {G : Nat → Nat} (h : WG G) {kind f : Nat} (hk : kind < 4) (hf : f < 8) : JX G kind (G 26) f := ⟨h, hk, fun _ q => q, hf⟩
def o_walk : am_A → Int32 → Int32 → Int32 → Int32 × am_A
  | (G, R), kind, f, what => if ¬ (0 ≤ kind ∧ kind < 4) ∨ ¬ (0 ≤ f ∧ f < 8) ∨ ¬ (0 ≤ what ∧ what < 3) then (-1, (G, R)) else ((if what = 0 then nI (g_T G kind.toNatClampNeg (G 44) (G 26) f.toNatClampNeg) else if what = 1 then nI (g_end G (g_S G kind.toNatClampNeg (G 44) (G 26) f.toNatClampNeg) (g_T G kind.toNatClampNeg (G 44) (G 26) f.toNatClampNeg)) else nI (g_S G kind.toNatClampNeg (G 44) (G 26) f.toNatClampNeg (g_T G kind.toNatClampNeg (G 44) (G 26) f.toNatClampNeg)).1), (G, R))
def o_at : am_A → Int32 → Int32 → Int32 → Int32 × am_A
  | (G, R), kind, f, n => if ¬ (0 ≤ kind ∧ kind < 4) ∨ ¬ (0 ≤ f ∧ f < 8) ∨ n < 0 ∨ 99 < n then (-1, (G, R)) else if g_T G kind.toNatClampNeg (G 44) (G 26) f.toNatClampNeg < n.toNatClampNeg then (-4, (G, R)) else (nI (g_S G kind.toNatClampNeg (G 44) (G 26) f.toNatClampNeg n.toNatClampNeg).1, (G, R))
def o_shut : am_A → Int32 → Int32 → Int32 × am_A
  | (G, R), kind, f => if ¬ (0 ≤ kind ∧ kind < 4) ∨ ¬ (0 ≤ f ∧ f < 8) then (-1, (G, R)) else (nI (g_S G kind.toNatClampNeg (G 44) (G 26) f.toNatClampNeg (g_T G kind.toNatClampNeg (G 44) (G 26) f.toNatClampNeg)).2, (G, R))
def T_RP_travel : am_Sp := fun vs I L post => match vs with
  | [.ref o, .int x, .int y, .int z] => o = 0 ∧ ∃ A kind f n, kind < 4 ∧ f < 8 ∧ CR I L A ∧ x = nI kind ∧ y = nI f ∧ z = nI n ∧ n < 2147483647 ∧ ∀ (I2 : am_I) (L2 : am_J), JS I2 L2 A.1 kind (A.1 44) (A.1 26) f (if g_T A.1 kind (A.1 44) (A.1 26) f < n then g_T A.1 kind (A.1 44) (A.1 26) f else n) → CR I2 L2 A → post none I2 L2
  | _ => False
def sp_RP_travel : Nat → am_Sp := fun i => match i with
  | 227 => T_JN_begin
  | 231 => T_JN_goOn
  | _ => am_no
set_option maxRecDepth 100000 in
theorem ok_RP_travel : am_Ok am_SX sp_RP_travel false k_RP_travel 4 T_RP_travel := by
  intro vs I L post h
  unfold T_RP_travel at h
  split at h
  · rename_i o x y z
    obtain ⟨rfl, A, kind, f, n, hk4, hf8, hC, rfl, rfl, rfl, hn, h⟩ := h
    refine ⟨Nat.le_of_ble_eq_true rfl, fun G2 hG2 => ?_⟩
    obtain ⟨G, K, hk, tn, tt, ln, sz, it⟩ := A
    obtain ⟨hV, hR, hKr, hk7, hT, ⟨V, hS⟩, hSh⟩ := id hC
    have hX : JX G kind (G 26) f := JX_of hV.1 hk4 hf8
    refine hG2 [] 100 0 _ _ _ _ (And.intro (rfl) (And.intro (rfl) (Exists.intro (G) (Exists.intro (kind) (Exists.intro (G 44) (Exists.intro (G 26) (Exists.intro (f) (Exists.intro (V) (And.intro (hX) (And.intro (hR) (And.intro (rfl) (And.intro (rfl) (And.intro (hR.2.2.1) (And.intro (hR.2.2.2.1) (And.intro (hS) (fun I1 L1 hj1 hf1 => ?_))))))))))))))))
    refine (And.intro (rfl) (And.intro (rfl) (Exists.intro (G) (Exists.intro (kind) (Exists.intro (G 44) (Exists.intro (G 26) (Exists.intro (f) (Exists.intro (0) (Exists.intro (n) (And.intro (hX) (And.intro (FJ_RC hf1 (by omega) hR) (And.intro (rfl) (And.intro (show 0 + n < 2147483647 by omega) (And.intro (hj1) (fun i2 I2 L2 hi1 hi2 hi3 hj2 hf2 => ?_)))))))))))))))
    have hp : ∀ j, j < i2 → g_end G (g_S G kind (G 44) (G 26) f) j = 3 := hj2.2.2.2.2.2.2.2.2.2.2
    have e := g_T_min hX hp (show i2 ≤ n by omega) (by rcases hi3 with q | q; exact Or.inl (by omega); exact Or.inr q)
    rw [e] at hj2
    exact h I2 L2 hj2 (CR_FJ hC (FJ_tr hf1 hf2) ⟨_, hj2.2.2.2.2.2.2.2.2.2.1⟩)
  · exact h.elim
def T_RP_walk : am_Sp := fun vs I L post => match vs with
  | [.ref o, .int x, .int y, .int z] => o = 0 ∧ ∃ A, CR I L A ∧ ∀ (I2 : am_I) (L2 : am_J), CR I2 L2 (o_walk A x y z).2 → post (some (.int (o_walk A x y z).1)) I2 L2
  | _ => False
def sp_RP_walk : Nat → am_Sp := fun i => match i with
  | 47 => T_RP_isPlace
  | 103 => T_RP_isFrom0
  | 140 => T_RP_isKind
  | 144 => T_RP_travel
  | _ => am_no
set_option maxRecDepth 100000 in
set_option maxHeartbeats 4000000 in
theorem ok_RP_walk : am_Ok am_SX sp_RP_walk false k_RP_walk 4 T_RP_walk := by
  intro vs I L post h
  unfold T_RP_walk at h
  split at h
  · rename_i o x y z
    obtain ⟨rfl, A, hC, h⟩ := h
    refine ⟨Nat.le_of_ble_eq_true rfl, fun G2 hG2 => ?_⟩
    obtain ⟨G, K, hk, tn, tt, ln, sz, it⟩ := A
    obtain ⟨hV, hR, hKr, hk7, hT, hS, hSh⟩ := id hC
    have hW : WG G := hV.1
    have h12 := hW.1
    dsimp only [o_walk] at h
    by_cases hx : 0 ≤ x ∧ x < 4
    · by_cases hy : 0 ≤ y ∧ y < 8
      · by_cases hz : 0 ≤ z ∧ z < 3
        · rw [if_neg (by rintro (q | q | q); exact q hx; exact q hy; exact q hz)] at h
          obtain ⟨kind, hk4, rfl⟩ := am_rng (n := 4) (by omega) hx.1 hx.2
          obtain ⟨f, hf8, rfl⟩ := am_rng (n := 8) (by omega) hy.1 hy.2
          rw [nI_clamp (by omega), nI_clamp (by omega)] at h
          refine hG2 [] 100 0 _ _ _ _ (am_f (am_bp hx) (am_f (am_bp hy) (am_nt (am_bp hz) (And.intro (rfl) (Exists.intro ((G, K, hk, tn, tt, ln, sz, it)) (Exists.intro (kind) (Exists.intro (f) (Exists.intro (32768) (And.intro (hk4) (And.intro (hf8) (And.intro (hC) (And.intro (rfl) (And.intro (rfl) (And.intro (rfl) (And.intro (by omega) (fun I2 L2 hj hC2 => ?_))))))))))))))))
          dsimp only at hj
          have ht := (g_T_spec (snow := G 44) (JX_of hW hk4 hf8)).1
          have e : (if g_T G kind (G 44) (G 26) f < 32768 then g_T G kind (G 44) (G 26) f else 32768) = g_T G kind (G 44) (G 26) f := by split <;> omega
          rw [e] at hj
          obtain ⟨j1, j2, j3, j4, j6, j7, j8, jn, j5, jsc, jp⟩ := hj
          refine And.intro (fun q => ?_) (fun q0 => And.intro (fun q => ?_) (fun q1 => ?_))
          · have hz0 : z = 0 := q
            rw [if_pos hz0] at h
            show post (some (.int (I2 21 6))) I2 L2
            rw [j6]; exact h I2 L2 hC2
          · have hz1 : z = 1 := q
            subst hz1
            rw [if_neg (by decide), if_pos rfl] at h
            show post (some (.int (I2 21 7))) I2 L2
            rw [j7]; exact h I2 L2 hC2
          · have p0 : ¬ z = 0 := q0
            have p1 : ¬ z = 1 := q1
            rw [if_neg p0, if_neg p1] at h
            show post (some (.int (I2 21 4))) I2 L2
            rw [j4]; exact h I2 L2 hC2
        · rw [if_pos (Or.inr (Or.inr hz))] at h
          exact hG2 [] 100 0 _ _ _ _ (am_f (am_bp hx) (am_f (am_bp hy) (am_nf (am_bn hz) (h I L hC))))
      · rw [if_pos (Or.inr (Or.inl hy))] at h
        exact hG2 [] 100 0 _ _ _ _ (am_f (am_bp hx) (am_t (am_bn hy) (h I L hC)))
    · rw [if_pos (Or.inl hx)] at h
      exact hG2 [] 100 0 _ _ _ _ (am_t (am_bn hx) (h I L hC))
  · exact h.elim
def T_RP_at : am_Sp := fun vs I L post => match vs with
  | [.ref o, .int x, .int y, .int z] => o = 0 ∧ ∃ A, CR I L A ∧ ∀ (I2 : am_I) (L2 : am_J), CR I2 L2 (o_at A x y z).2 → post (some (.int (o_at A x y z).1)) I2 L2
  | _ => False
def sp_RP_at : Nat → am_Sp := fun i => match i with
  | 47 => T_RP_isPlace
  | 140 => T_RP_isKind
  | 144 => T_RP_travel
  | _ => am_no
set_option maxRecDepth 100000 in
set_option maxHeartbeats 4000000 in
theorem ok_RP_at : am_Ok am_SX sp_RP_at false k_RP_at 4 T_RP_at := by
  intro vs I L post h
  unfold T_RP_at at h
  split at h
  · rename_i o x y z
    obtain ⟨rfl, A, hC, h⟩ := h
    refine ⟨Nat.le_of_ble_eq_true rfl, fun G2 hG2 => ?_⟩
    obtain ⟨G, K, hk, tn, tt, ln, sz, it⟩ := A
    obtain ⟨hV, hR, hKr, hk7, hT, hS, hSh⟩ := id hC
    have hW : WG G := hV.1
    have h12 := hW.1
    dsimp only [o_at] at h
    by_cases hx : 0 ≤ x ∧ x < 4
    · by_cases hy : 0 ≤ y ∧ y < 8
      · by_cases hz : z < 0
        · rw [if_pos (Or.inr (Or.inr (Or.inl hz)))] at h
          exact hG2 [] 100 0 _ _ _ _ (am_f (am_bp hx) (am_f (am_bp hy) (am_t hz (h I L hC))))
        · by_cases hz2 : 99 < z
          · rw [if_pos (Or.inr (Or.inr (Or.inr hz2)))] at h
            exact hG2 [] 100 0 _ _ _ _ (am_f (am_bp hx) (am_f (am_bp hy) (am_f hz (am_nf hz2 (h I L hC)))))
          · rw [if_neg (by rintro (q | q | q | q); exact q hx; exact q hy; exact hz q; exact hz2 q)] at h
            obtain ⟨kind, hk4, rfl⟩ := am_rng (n := 4) (by omega) hx.1 hx.2
            obtain ⟨f, hf8, rfl⟩ := am_rng (n := 8) (by omega) hy.1 hy.2
            obtain ⟨n, hn, rfl⟩ := am_rng (n := 100) (by omega) (Int32.not_lt.mp hz) (Int32.lt_of_le_of_lt (Int32.not_lt.mp hz2) (by decide))
            have cn : (nI n).toNatClampNeg = n := nI_clamp (by omega)
            rw [nI_clamp (by omega), nI_clamp (by omega), cn] at h
            refine hG2 [] 100 0 _ _ _ _ (am_f (am_bp hx) (am_f (am_bp hy) (am_f hz (am_nt hz2 (And.intro (rfl) (Exists.intro ((G, K, hk, tn, tt, ln, sz, it)) (Exists.intro (kind) (Exists.intro (f) (Exists.intro (n) (And.intro (hk4) (And.intro (hf8) (And.intro (hC) (And.intro (rfl) (And.intro (rfl) (And.intro (rfl) (And.intro (by omega) (fun I2 L2 hj hC2 => ?_)))))))))))))))))
            dsimp only at hj
            have ht := (g_T_spec (snow := G 44) (JX_of hW hk4 hf8)).1
            obtain ⟨j1, j2, j3, j4, j6, j7, j8, jn, j5, jsc, jp⟩ := hj
            by_cases hlt : g_T G kind (G 44) (G 26) f < n
            · rw [if_pos hlt] at h j6
              refine am_nf (by rw [j6]; exact nI_lt hlt (by omega)) (h I2 L2 hC2)
            · rw [if_neg hlt] at h j6 j4
              refine am_nt (by rw [j6]; exact nI_nlt (Nat.le_refl n) (by omega)) ?_
              show post (some (.int (I2 21 4))) I2 L2
              rw [j4]; exact h I2 L2 hC2
      · rw [if_pos (Or.inr (Or.inl hy))] at h
        exact hG2 [] 100 0 _ _ _ _ (am_f (am_bp hx) (am_t (am_bn hy) (h I L hC)))
    · rw [if_pos (Or.inl hx)] at h
      exact hG2 [] 100 0 _ _ _ _ (am_t (am_bn hx) (h I L hC))
  · exact h.elim
def T_RP_shut : am_Sp := fun vs I L post => match vs with
  | [.ref o, .int x, .int y] => o = 0 ∧ ∃ A, CR I L A ∧ ∀ (I2 : am_I) (L2 : am_J), CR I2 L2 (o_shut A x y).2 → post (some (.int (o_shut A x y).1)) I2 L2
  | _ => False
def sp_RP_shut : Nat → am_Sp := fun i => match i with
  | 47 => T_RP_isPlace
  | 140 => T_RP_isKind
  | 144 => T_RP_travel
  | _ => am_no
set_option maxRecDepth 100000 in
set_option maxHeartbeats 4000000 in
theorem ok_RP_shut : am_Ok am_SX sp_RP_shut false k_RP_shut 3 T_RP_shut := by
  intro vs I L post h
  unfold T_RP_shut at h
  split at h
  · rename_i o x y
    obtain ⟨rfl, A, hC, h⟩ := h
    refine ⟨Nat.le_of_ble_eq_true rfl, fun G2 hG2 => ?_⟩
    obtain ⟨G, K, hk, tn, tt, ln, sz, it⟩ := A
    obtain ⟨hV, hR, hKr, hk7, hT, hS, hSh⟩ := id hC
    have hW : WG G := hV.1
    have h12 := hW.1
    dsimp only [o_shut] at h
    by_cases hx : 0 ≤ x ∧ x < 4
    · by_cases hy : 0 ≤ y ∧ y < 8
      · rw [if_neg (by rintro (q | q); exact q hx; exact q hy)] at h
        obtain ⟨kind, hk4, rfl⟩ := am_rng (n := 4) (by omega) hx.1 hx.2
        obtain ⟨f, hf8, rfl⟩ := am_rng (n := 8) (by omega) hy.1 hy.2
        rw [nI_clamp (by omega), nI_clamp (by omega)] at h
        refine hG2 [] 100 0 _ _ _ _ (am_f (am_bp hx) (am_nt (am_bp hy) (And.intro (rfl) (Exists.intro ((G, K, hk, tn, tt, ln, sz, it)) (Exists.intro (kind) (Exists.intro (f) (Exists.intro (32768) (And.intro (hk4) (And.intro (hf8) (And.intro (hC) (And.intro (rfl) (And.intro (rfl) (And.intro (rfl) (And.intro (by omega) (fun I2 L2 hj hC2 => ?_)))))))))))))))
        dsimp only at hj
        have ht := (g_T_spec (snow := G 44) (JX_of hW hk4 hf8)).1
        have e : (if g_T G kind (G 44) (G 26) f < 32768 then g_T G kind (G 44) (G 26) f else 32768) = g_T G kind (G 44) (G 26) f := by split <;> omega
        rw [e] at hj
        show post (some (.int (I2 21 8))) I2 L2
        rw [hj.2.2.2.2.2.2.1]
        exact h I2 L2 hC2
      · rw [if_pos (Or.inr hy)] at h
        exact hG2 [] 100 0 _ _ _ _ (am_f (am_bp hx) (am_nf (am_bn hy) (h I L hC)))
    · rw [if_pos (Or.inl hx)] at h
      exact hG2 [] 100 0 _ _ _ _ (am_t (am_bn hx) (h I L hC))
  · exact h.elim
