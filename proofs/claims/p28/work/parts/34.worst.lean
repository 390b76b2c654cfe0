/-! THE CLASS: what is needed at worst -/
theorem g_E_sym (G : Nat → Nat) (s a b : Nat) : g_E G s a b = g_E G s b a := by
  unfold g_E
  rw [g_wy_sym G a b]
theorem g_D_le {E : Nat → Nat → Bool} {h k q : Nat} (hh : h < 8) (hq : q < 8) (hr : g_R E h k q = true) : g_d E h q ≤ k ∧ g_d E h q < 10000 := by
  rcases g_d_spec E h q with ⟨a, b⟩ | ⟨a, b, c⟩
  · have := g_R7 hh hq hr
    rw [b 7 (by omega)] at this
    cases this
  · refine ⟨?_, by omega⟩
    rcases Nat.lt_or_ge k (g_d E h q) with z | z
    · rw [c k z] at hr; cases hr
    · exact z
theorem g_D_R {E : Nat → Nat → Bool} {h q : Nat} (hl : g_d E h q < 10000) : g_R E h (g_d E h q) q = true ∧ g_d E h q < 8 := by
  rcases g_d_spec E h q with ⟨a, b⟩ | ⟨a, b, c⟩
  · omega
  · exact ⟨b, a⟩
theorem g_D_step {E : Nat → Nat → Bool} {h p q : Nat} (hh : h < 8) (hp : p < 8) (hq : q < 8) (he : E p q = true) (hl : g_d E h p < 10000) : g_d E h q ≤ g_d E h p + 1 ∧ g_d E h q < 10000 := g_D_le hh hq (g_R_succ.mpr (Or.inr ⟨p, hp, he, (g_D_R hl).1⟩))
theorem g_D_0 {E : Nat → Nat → Bool} {h : Nat} : g_d E h h = 0 := g_d_eq (by omega) (by simp [g_R]) (fun j hj => by omega)
theorem g_D_z {E : Nat → Nat → Bool} {h q : Nat} (hz : g_d E h q = 0) : q = h := by
  have := (g_D_R (E := E) (h := h) (q := q) (by omega)).1
  rw [hz] at this
  simpa [g_R] using this
theorem g_D_pred {E : Nat → Nat → Bool} {h q : Nat} (hh : h < 8) (hq : q < 8) (hl : g_d E h q < 10000) (hne : ¬ q = h) : ∃ p, p < 8 ∧ E p q = true ∧ g_d E h p < 10000 ∧ g_d E h q = g_d E h p + 1 := by
  obtain ⟨k, hk⟩ : ∃ k, g_d E h q = k + 1 := ⟨g_d E h q - 1, by
    have : ¬ g_d E h q = 0 := fun z => hne (g_D_z z)
    omega⟩
  have h1 := (g_D_R hl).1
  rw [hk] at h1
  rcases g_R_succ.mp h1 with a | ⟨p, a, b, c⟩
  · have := (g_D_le hh hq a).1; omega
  · obtain ⟨d1, d2⟩ := g_D_le hh a c
    have := (g_D_step hh a hq b d2).1
    exact ⟨p, a, b, d2, by omega⟩
theorem g_to_far {E : Nat → Nat → Bool} {h a : Nat} (hs : ∀ p q, E p q = E q p) (hh : h < 8) (ha : a < 8) (hl : ¬ g_d E h a < 10000) : g_to E h a = none := g_ch_none (fun q hq he hd => hl (g_D_step hh hq ha (by rw [hs]; exact he) hd).2)
theorem g_to_near {E : Nat → Nat → Bool} {h a : Nat} (hs : ∀ p q, E p q = E q p) (hh : h < 8) (ha : a < 8) (hl : g_d E h a < 10000) (hne : ¬ a = h) : ∃ q, g_to E h a = some q ∧ q < 8 ∧ g_d E h q < 10000 ∧ g_d E h a = g_d E h q + 1 := by
  obtain ⟨p, p1, p2, p3, p4⟩ := g_D_pred hh ha hl hne
  rcases g_ch_spec (g_d E h) (E a) 8 with ⟨z, z2⟩ | ⟨b, z1, z2, z3, z4, z5⟩
  · exact absurd p3 (z2 p p1 (by rw [hs]; exact p2))
  · have h1 := (z5 p p1 (by rw [hs]; exact p2)).1
    have h2 := (g_D_step hh z2 ha (by rw [hs]; exact z3) z4).1
    exact ⟨b, z1, z2, z4, by omega⟩
def o_worst : am_A → Int32 → Int32 × am_A
  | (G, R), f => if ¬ (0 ≤ f ∧ f < 8) then (-1, (G, R)) else if g_d (g_E G (G 25)) (G 43) f.toNatClampNeg < 10000 then (nI (g_d (g_E G (G 25)) (G 43) f.toNatClampNeg), (G, R)) else (-4, (G, R))
def o_next : am_A → Int32 → Int32 × am_A
  | (G, R), f => if ¬ (0 ≤ f ∧ f < 8) then (-1, (G, R)) else ((if f.toNatClampNeg = G 43 then -4 else match g_to (g_E G (G 25)) (G 43) f.toNatClampNeg with
    | some q => nI q
    | none => -4), (G, R))
def T_RP_worst : am_Sp := fun vs I L post => match vs with
  | [.ref o, .int x] => o = 0 ∧ ∃ A, CR I L A ∧ ∀ (I2 : am_I) (L2 : am_J), CR I2 L2 (o_worst A x).2 → post (some (.int (o_worst A x).1)) I2 L2
  | _ => False
def sp_RP_worst : Nat → am_Sp := fun i => match i with
  | 47 => T_RP_isPlace
  | 163 => T_NT_towards
  | _ => am_no
set_option maxRecDepth 100000 in
set_option maxHeartbeats 4000000 in
theorem ok_RP_worst : am_Ok am_SX sp_RP_worst false k_RP_worst 4 T_RP_worst := by
  intro vs I L post h
  unfold T_RP_worst at h
  split at h
  · rename_i o x
    obtain ⟨rfl, A, hC, h⟩ := h
    refine ⟨Nat.le_of_ble_eq_true rfl, fun G2 hG2 => ?_⟩
    obtain ⟨G, K, hk, tn, tt, ln, sz, it⟩ := A
    obtain ⟨hV, hR, hKr, hk7, hT, hS, hSh⟩ := id hC
    have hW : WG G := hV.1
    have h12 := hW.1
    obtain ⟨r5, r6, r7, r8, r9, rw2, rj, rs, rn, rc⟩ := id hR
    dsimp only [o_worst] at h
    by_cases hx : 0 ≤ x ∧ x < 8
    · rw [if_neg (fun q => q hx)] at h
      obtain ⟨f, hf8, rfl⟩ := am_rng (n := 8) (by omega) hx.1 hx.2
      rw [nI_clamp (by omega)] at h
      have h43 : G 43 < 8 := hW.2.2.2.2.2.2.2.2.1
      have hsy := g_E_sym G (G 25)
      have het : ∀ a, a < 8 → g_to (fun p q => bl (L 1 11) (8 * p + q)) (G 43) a = g_to (g_E G (G 25)) (G 43) a := fun a ha => g_to_congr (fun p q hp hq => rc p q hp hq) ha
      have r11 : I 1 9 = nI (G 43) := r9
      have hne : ∀ a, a < 8 → ¬ a = G 43 → ¬ nI a = nI (G 43) := fun a ha q z => q ((nI_eq (by omega) (by omega)).mp z)
      by_cases hd : g_d (g_E G (G 25)) (G 43) f < 10000
      · rw [if_pos hd] at h
        have loop : ∀ d p s, p < 8 → g_d (g_E G (G 25)) (G 43) p = d → d + s = g_d (g_E G (G 25)) (G 43) f → G2 13 [some (.ref 0), some (.int (nI f)), some (.int (nI p)), some (.int (nI s))] [] I L := by
          have h8 := (g_D_R hd).2
          intro d
          induction d with
          | zero =>
            intro p s hp hpd hs
            have e := g_D_z hpd
            refine hG2 [] 100 13 _ _ _ _ ?_
            show (nI p = I 1 9 → _) ∧ (¬ nI p = I 1 9 → _)
            rw [r11, e]
            rw [show g_d (g_E G (G 25)) (G 43) f = s by omega] at h
            exact am_t rfl (h I L hC)
          | succ d ih =>
            intro p s hp hpd hs
            have hpn : ¬ p = G 43 := fun z => by rw [z, g_D_0] at hpd; omega
            obtain ⟨q, q1, q2, q3, q4⟩ := g_to_near hsy h43 hp (by omega) hpn
            refine hG2 [(13, [])] 100 13 _ _ _ _ ?_
            show (nI p = I 1 9 → _) ∧ (¬ nI p = I 1 9 → _)
            rw [r11]
            refine am_f (hne p hp hpn) (am_nf (am_lt (show s < 8 by omega) rfl) (Exists.intro (p) (Exists.intro (G 43) (And.intro (hp) (And.intro (h43) (And.intro (rfl) (And.intro (r9) (?_))))))))
            rw [het p hp, q1]
            refine am_nt (nI_pos (show q < 2 ^ 31 by omega)) ?_
            show G2 13 [some (.ref 0), some (.int (nI f)), some (.int (nI q)), some (.int (nI s + 1))] [] I L
            rw [nI_1]
            exact ih q (s + 1) q2 (by omega) (by omega)
        refine hG2 [(13, [])] 100 0 _ _ _ _ (am_nt (am_bp hx) ?_)
        exact loop _ f 0 hf8 rfl (by omega)
      · rw [if_neg hd] at h
        have hfn : ¬ f = G 43 := fun z => by rw [z, g_D_0] at hd; omega
        refine hG2 [] 100 0 _ _ _ _ (am_nt (am_bp hx) ?_)
        show (nI f = I 1 9 → _) ∧ (¬ nI f = I 1 9 → _)
        rw [r11]
        refine am_f (hne f hf8 hfn) (am_nf (by decide) (Exists.intro (f) (Exists.intro (G 43) (And.intro (hf8) (And.intro (h43) (And.intro (rfl) (And.intro (r9) (?_))))))))
        rw [het f hf8, g_to_far hsy h43 hf8 hd]
        exact am_nf (by decide) (h I L hC)
    · rw [if_pos hx] at h
      exact hG2 [] 100 0 _ _ _ _ (am_nf (am_bn hx) (h I L hC))
  · exact h.elim
def T_RP_next : am_Sp := fun vs I L post => match vs with
  | [.ref o, .int x] => o = 0 ∧ ∃ A, CR I L A ∧ ∀ (I2 : am_I) (L2 : am_J), CR I2 L2 (o_next A x).2 → post (some (.int (o_next A x).1)) I2 L2
  | _ => False
def sp_RP_next : Nat → am_Sp := fun i => match i with
  | 47 => T_RP_isPlace
  | 163 => T_NT_towards
  | _ => am_no
set_option maxRecDepth 100000 in
set_option maxHeartbeats 4000000 in
theorem ok_RP_next : am_Ok am_SX sp_RP_next false k_RP_next 3 T_RP_next := by
  intro vs I L post h
  unfold T_RP_next at h
  split at h
  · rename_i o x
    obtain ⟨rfl, A, hC, h⟩ := h
    refine ⟨Nat.le_of_ble_eq_true rfl, fun G2 hG2 => ?_⟩
    obtain ⟨G, K, hk, tn, tt, ln, sz, it⟩ := A
    obtain ⟨hV, hR, hKr, hk7, hT, hS, hSh⟩ := id hC
    have hW : WG G := hV.1
    have h12 := hW.1
    obtain ⟨r5, r6, r7, r8, r9, rw2, rj, rs, rn, rc⟩ := id hR
    dsimp only [o_next] at h
    by_cases hx : 0 ≤ x ∧ x < 8
    · rw [if_neg (fun q => q hx)] at h
      obtain ⟨f, hf8, rfl⟩ := am_rng (n := 8) (by omega) hx.1 hx.2
      rw [nI_clamp (by omega)] at h
      have h43 : G 43 < 8 := hW.2.2.2.2.2.2.2.2.1
      have het : ∀ a, a < 8 → g_to (fun p q => bl (L 1 11) (8 * p + q)) (G 43) a = g_to (g_E G (G 25)) (G 43) a := fun a ha => g_to_congr (fun p q hp hq => rc p q hp hq) ha
      have r11 : I 1 9 = nI (G 43) := r9
      refine hG2 [] 100 0 _ _ _ _ (am_nt (am_bp hx) ?_)
      show (¬ nI f = I 1 9 → _) ∧ (nI f = I 1 9 → _)
      rw [r11]
      by_cases hfn : f = G 43
      · rw [if_pos hfn] at h
        exact am_nf (by rw [hfn]) (am_nf (by decide) (h I L hC))
      · rw [if_neg hfn] at h
        refine am_nt (fun z => hfn ((nI_eq (by omega) (by omega)).mp z)) (Exists.intro (f) (Exists.intro (G 43) (And.intro (hf8) (And.intro (h43) (And.intro (rfl) (And.intro (r9) (?_)))))))
        rw [het f hf8]
        cases e : g_to (g_E G (G 25)) (G 43) f with
        | none =>
          rw [e] at h
          exact am_nf (by decide) (h I L hC)
        | some q =>
          rw [e] at h
          have hq8 := (g_to_spec e).1
          exact am_nt (nI_pos (show q < 2 ^ 31 by omega)) (h I L hC)
    · rw [if_pos hx] at h
      exact hG2 [] 100 0 _ _ _ _ (am_nf (am_bn hx) (h I L hC))
  · exact h.elim
