/-! what is known by threes: the numbers -/
def g_th (G : Nat → Nat) (k : Nat) : Nat := if (G 25).testBit k = true then 3 ^ g_pc (G 25) k else 0
def g_al (G : Nat → Nat) : Nat := 3 ^ g_pc (G 25) (G 0)
theorem g_pc_mn {m : Nat} : ∀ {n k : Nat}, k ≤ n → g_pc m k ≤ g_pc m n := by
  intro n
  induction n with
  | zero => intro k h; rw [show k = 0 by omega]; exact Nat.le_refl _
  | succ n ih =>
    intro k h
    by_cases e : k = n + 1
    · rw [e]; exact Nat.le_refl _
    · have h2 := ih (k := k) (by omega)
      simp only [g_pc]; omega
theorem g_pc_bit {m k n : Nat} (h : m.testBit k = true) (hk : k < n) : g_pc m k + 1 ≤ g_pc m n := by
  have h1 := g_pc_mn (m := m) (n := n) (k := k + 1) hk
  simp only [g_pc, if_pos h] at h1
  exact h1
theorem g_pc_6 {G : Nat → Nat} (h : WG G) {k : Nat} (hk : k ≤ 12) : g_pc (G 25) k ≤ 6 := Nat.le_trans (g_pc_mn hk) h.2.2.2.2.2.1
theorem g_p3 {k : Nat} (h : k ≤ 6) : 3 ^ k ≤ 729 ∧ 1 ≤ 3 ^ k := ⟨Nat.pow_le_pow_right (n := 3) (by omega) h, Nat.pow_pos (by omega)⟩
theorem g_th_le {G : Nat → Nat} (h : WG G) {k : Nat} (hk : k < G 0) : g_th G k ≤ 729 := by
  have h12 := h.1
  unfold g_th
  split
  · exact (g_p3 (g_pc_6 h (by omega))).1
  · omega
theorem g_al_le {G : Nat → Nat} (h : WG G) : g_al G ≤ 729 ∧ 1 ≤ g_al G := g_p3 (g_pc_6 h h.1)
def g_kn (G : Nat → Nat) (c k : Nat) : Nat := if g_th G k = 0 then 1 else c / g_th G k % 3
theorem g_kn_lt (G : Nat → Nat) (c k : Nat) : g_kn G c k < 3 := by
  unfold g_kn
  split
  · omega
  · exact Nat.mod_lt _ (by omega)
theorem g_dg1 {c e : Nat} (h0 : c / 3 ^ e % 3 = 0) : c % 3 ^ (e + 1) < 3 ^ e := by
  have hp : 0 < 3 ^ e := Nat.pow_pos (by omega)
  have e1 : 3 ^ (e + 1) = 3 ^ e * 3 := Nat.pow_succ _ _
  have h1 : c % (3 ^ e * 3) = c % 3 ^ e + 3 ^ e * (c / 3 ^ e % 3) := Nat.mod_mul
  rw [h0, Nat.mul_zero, Nat.add_zero] at h1
  rw [e1, h1]
  exact Nat.mod_lt _ hp
theorem g_dg {c e D : Nat} (hD : e < D) (hc : c < 3 ^ D) (h0 : c / 3 ^ e % 3 = 0) : c + 2 * 3 ^ e < 3 ^ D := by
  have h1 := g_dg1 h0
  have e1 : 3 ^ (e + 1) = 3 ^ e * 3 := Nat.pow_succ _ _
  have e2 : 3 ^ D = 3 ^ (e + 1) * 3 ^ (D - (e + 1)) := by rw [← Nat.pow_add, show e + 1 + (D - (e + 1)) = D by omega]
  have h3 : c / 3 ^ (e + 1) < 3 ^ (D - (e + 1)) := Nat.div_lt_of_lt_mul (by rw [← e2]; exact hc)
  have h4 := Nat.div_add_mod c (3 ^ (e + 1))
  have h5 : 3 ^ (e + 1) * (c / 3 ^ (e + 1) + 1) ≤ 3 ^ (e + 1) * 3 ^ (D - (e + 1)) := Nat.mul_le_mul_left _ h3
  rw [← e2, Nat.mul_add, Nat.mul_one] at h5
  generalize 3 ^ (e + 1) * (c / 3 ^ (e + 1)) = x at h4 h5
  generalize c % 3 ^ (e + 1) = r at h1 h4
  generalize 3 ^ (e + 1) = m at e1 h5
  generalize 3 ^ e = t at e1 h1 ⊢
  omega
theorem g_dg2 {c e e' : Nat} (hne : ¬ e' = e) (h0 : c / 3 ^ e % 3 = 0) : (c + 2 * 3 ^ e) / 3 ^ e' % 3 = c / 3 ^ e' % 3 := by
  have hp : 0 < 3 ^ e := Nat.pow_pos (by omega)
  have hp' : 0 < 3 ^ e' := Nat.pow_pos (by omega)
  rcases Nat.lt_or_gt_of_ne hne with h | h
  · obtain ⟨j, rfl⟩ : ∃ j, e = e' + (j + 1) := ⟨e - e' - 1, by omega⟩
    have e1 : 2 * 3 ^ (e' + (j + 1)) = 3 ^ e' * (3 * (2 * 3 ^ j)) := by rw [Nat.pow_add, Nat.pow_succ]; ac_rfl
    rw [e1, Nat.add_mul_div_left _ _ hp', Nat.add_mul_mod_self_left]
  · obtain ⟨j, rfl⟩ : ∃ j, e' = e + 1 + j := ⟨e' - e - 1, by omega⟩
    have h1 := g_dg1 h0
    have h4 := Nat.div_add_mod c (3 ^ (e + 1))
    have e1 : 3 ^ (e + 1) = 3 ^ e * 3 := Nat.pow_succ _ _
    have key : (c + 2 * 3 ^ e) / 3 ^ (e + 1) = c / 3 ^ (e + 1) := by
      have e3 : c + 2 * 3 ^ e = (c % 3 ^ (e + 1) + 2 * 3 ^ e) + 3 ^ (e + 1) * (c / 3 ^ (e + 1)) := by omega
      have e4 : (c % 3 ^ (e + 1) + 2 * 3 ^ e) / 3 ^ (e + 1) = 0 := Nat.div_eq_of_lt (by rw [e1] at h1 ⊢; omega)
      generalize hq : c / 3 ^ (e + 1) = q at e3 ⊢
      rw [e3, Nat.add_mul_div_left _ _ (Nat.pow_pos (by omega)), e4, Nat.zero_add]
    rw [Nat.pow_add, ← Nat.div_div_eq_div_mul, ← Nat.div_div_eq_div_mul, key]
theorem g_th_t {G : Nat → Nat} {k : Nat} (h : (G 25).testBit k = true) : g_th G k = 3 ^ g_pc (G 25) k ∧ ¬ g_th G k = 0 := by
  unfold g_th
  rw [if_pos h]
  exact ⟨rfl, Nat.pos_iff_ne_zero.mp (Nat.pow_pos (by omega))⟩
theorem g_kn_0 {G : Nat → Nat} {c k : Nat} (h : g_kn G c k = 0) : (G 25).testBit k = true ∧ c / 3 ^ g_pc (G 25) k % 3 = 0 := by
  by_cases hb : (G 25).testBit k = true
  · refine ⟨hb, ?_⟩
    unfold g_kn at h
    rw [if_neg (g_th_t hb).2, (g_th_t hb).1] at h
    exact h
  · unfold g_kn at h
    rw [if_pos (by unfold g_th; rw [if_neg hb])] at h
    omega
theorem g_kn_c {G : Nat → Nat} {c k : Nat} (hb : ¬ (G 25).testBit k = true) : g_kn G c k = 1 := by
  unfold g_kn
  rw [if_pos (by unfold g_th; rw [if_neg hb])]
theorem g_upl {G : Nat → Nat} {c k : Nat} (hk : k < G 0) (hc : c < g_al G) (h : g_kn G c k = 0) : c + 2 * g_th G k < g_al G := by
  obtain ⟨h1, h2⟩ := g_kn_0 h
  rw [(g_th_t h1).1]
  exact g_dg (g_pc_bit h1 hk) hc h2
def g_n1 (G : Nat → Nat) (c : Nat) : Prop := ∀ k, k < G 0 → (G 25).testBit k = true → ¬ g_kn G c k = 1
theorem g_n1_0 (G : Nat → Nat) : g_n1 G 0 := by
  intro k hk hb
  unfold g_kn
  rw [if_neg (g_th_t hb).2, Nat.zero_div]
  omega
theorem g_n1_up {G : Nat → Nat} {c k : Nat} (hk : k < G 0) (h1 : g_n1 G c) (h : g_kn G c k = 0) : g_n1 G (c + 2 * g_th G k) := by
  obtain ⟨hb, h2⟩ := g_kn_0 h
  intro j hj hbj
  have hcj := h1 j hj hbj
  unfold g_kn at hcj ⊢
  rw [if_neg (g_th_t hbj).2, (g_th_t hbj).1] at hcj ⊢
  rw [(g_th_t hb).1]
  by_cases e : j = k
  · subst e
    rw [Nat.mul_comm 2, Nat.add_mul_div_left _ _ (Nat.pow_pos (by omega))]
    omega
  · rw [g_dg2 (fun z => ?_) h2]
    · exact hcj
    · rcases Nat.lt_or_gt_of_ne e with q | q
      · have := g_pc_bit hbj q; omega
      · have := g_pc_bit hb q; omega
/-! what is needed -/
def g_mx (a b : Nat) : Nat := if b < a then a else b
theorem g_mx_l (a b : Nat) : a ≤ g_mx a b ∧ b ≤ g_mx a b := by unfold g_mx; split <;> omega
theorem g_mx_u {a b d : Nat} (ha : a ≤ d) (hb : b ≤ d) : g_mx a b ≤ d := by unfold g_mx; split <;> omega
def g_co (G : Nat → Nat) (N : Nat → Nat → Nat) (p c : Nat) : Nat := if ¬ (G 26).testBit p = true ∨ p = G 43 ∨ ¬ g_kn G c (G (35 + p)) = 0 then N c p else g_mx (N (c + g_th G (G (35 + p))) p) (N (c + 2 * g_th G (G (35 + p))) p)
def g_nd (G : Nat → Nat) (N : Nat → Nat → Nat) (p q c k : Nat) : Nat := if g_kn G c k = 1 then g_co G N q c else g_mx (g_co G N q (c + g_th G k)) (N (c + 2 * g_th G k) p)
def g_nb (G : Nat → Nat) (N : Nat → Nat → Nat) (p q c : Nat) : Nat := if g_wy G p q = 0 then 10000 else if g_kn G c (g_wy G p q - 1) = 2 then 10000 else if 10000 ≤ g_nd G N p q c (g_wy G p q - 1) then 10000 else g_nd G N p q c (g_wy G p q - 1) + 1
theorem g_nb_le (G : Nat → Nat) (N : Nat → Nat → Nat) (p q c : Nat) : g_nb G N p q c ≤ 10000 := by
  unfold g_nb
  split
  · omega
  · split
    · omega
    · split <;> omega
def NLo (G : Nat → Nat) (N : Nat → Nat → Nat) (c : Nat) : Prop := ∀ c' p, c ≤ c' → c' < g_al G → p < 8 → g_n1 G c' → g_d (g_E G (G 25)) (G 43) p ≤ N c' p
def NUp (G : Nat → Nat) (N : Nat → Nat → Nat) (c : Nat) : Prop := ∀ c' p, c ≤ c' → c' < g_al G → p < 8 → N c' p ≤ g_d (g_E G (G 25)) (G 43) p
theorem g_co_lo {G : Nat → Nat} {N : Nat → Nat → Nat} {c p : Nat} (hW : WG G) (hc : c < g_al G) (hp : p < 8) (h1 : g_n1 G c) (hN : NLo G N c) : g_d (g_E G (G 25)) (G 43) p ≤ g_co G N p c := by
  unfold g_co
  split
  · exact hN c p (Nat.le_refl c) hc hp h1
  · rename_i h
    have hs : (G 26).testBit p = true := Classical.byContradiction (fun z => h (Or.inl z))
    have h0 : g_kn G c (G (35 + p)) = 0 := Classical.byContradiction (fun z => h (Or.inr (Or.inr z)))
    have hk := (hW.2.2.2.2.2.2.2.1 p hp hs).2
    exact Nat.le_trans (hN _ p (by omega) (g_upl hk hc h0) hp (g_n1_up hk h1 h0)) (g_mx_l _ _).2
theorem g_co_up {G : Nat → Nat} {N : Nat → Nat → Nat} {c p : Nat} (hW : WG G) (hc : c < g_al G) (hp : p < 8) (h0 : N c p ≤ g_d (g_E G (G 25)) (G 43) p) (hN : NUp G N (c + 1)) : g_co G N p c ≤ g_d (g_E G (G 25)) (G 43) p := by
  unfold g_co
  split
  · exact h0
  · rename_i h
    have hs : (G 26).testBit p = true := Classical.byContradiction (fun z => h (Or.inl z))
    have h0 : g_kn G c (G (35 + p)) = 0 := Classical.byContradiction (fun z => h (Or.inr (Or.inr z)))
    have hk := (hW.2.2.2.2.2.2.2.1 p hp hs).2
    have hl := g_upl hk hc h0
    have hz := (g_th_t (g_kn_0 h0).1).2
    exact g_mx_u (hN _ p (by omega) (by omega) hp) (hN _ p (by omega) hl hp)
theorem g_wy_k {G : Nat → Nat} {p q : Nat} (h : ¬ g_wy G p q = 0) : ∃ k, g_wy G p q = k + 1 ∧ k < G 0 := by
  have := g_wy_le G p q
  exact ⟨g_wy G p q - 1, by omega, by omega⟩
theorem g_nb_lo {G : Nat → Nat} {N : Nat → Nat → Nat} {c p q : Nat} (hW : WG G) (hc : c < g_al G) (hp : p < 8) (hq : q < 8) (h1 : g_n1 G c) (hN : NLo G N c) : g_d (g_E G (G 25)) (G 43) p ≤ g_nb G N p q c := by
  have hd := g_d_le (g_E G (G 25)) (G 43) p
  have h43 : G 43 < 8 := hW.2.2.2.2.2.2.2.2.1
  unfold g_nb
  split
  · exact hd
  · rename_i hw
    obtain ⟨k, hk, hk0⟩ := g_wy_k hw
    rw [hk, Nat.add_sub_cancel]
    split
    · exact hd
    · rename_i h2
      split
      · exact hd
      · rename_i h9
        have h3 := g_kn_lt G c k
        unfold g_nd at h9 ⊢
        by_cases e1 : g_kn G c k = 1
        · rw [if_pos e1] at h9 ⊢
          have hb : ¬ (G 25).testBit k = true := fun z => h1 k hk0 z e1
          have hE : g_E G (G 25) q p = true := by
            rw [g_E_sym]
            unfold g_E
            rw [hk, Nat.add_sub_cancel]
            simp [hb]
          have hl := g_co_lo hW hc hq h1 hN
          have := (g_D_step h43 hq hp hE (by omega)).1
          exact Nat.le_trans this (by omega)
        · rw [if_neg e1] at h9 ⊢
          have e0 : g_kn G c k = 0 := by omega
          have := hN _ p (by omega) (g_upl hk0 hc e0) hp (g_n1_up hk0 h1 e0)
          have := (g_mx_l (g_co G N q (c + g_th G k)) (N (c + 2 * g_th G k) p)).2
          omega
/-- a clear way -/
theorem g_nb_c {G : Nat → Nat} {N : Nat → Nat → Nat} {c p q : Nat} (hE : g_E G (G 25) p q = true) : g_nb G N p q c = if 10000 ≤ g_co G N q c then 10000 else g_co G N q c + 1 := by
  obtain ⟨k, hk, hk0, _, hb⟩ := g_E_wy hE
  have e1 := g_kn_c (G := G) (c := c) (k := k) (by simp [hb])
  unfold g_nb g_nd
  rw [hk, if_neg (by omega), Nat.add_sub_cancel, e1, if_neg (by omega), if_pos rfl]
theorem g_fix {G : Nat → Nat} {N : Nat → Nat → Nat} {c : Nat} (hW : WG G) (hc : c < g_al G) (h0 : N c (G 43) = 0) (hle : ∀ p, p < 8 → N c p ≤ 10000) (hN : NUp G N (c + 1)) (hf : ∀ p q, p < 8 → q < 8 → ¬ p = G 43 → N c p ≤ g_nb G N p q c) : NUp G N c := by
  have h43 : G 43 < 8 := hW.2.2.2.2.2.2.2.2.1
  have key : ∀ n p, p < 8 → g_d (g_E G (G 25)) (G 43) p = n → n < 10000 → N c p ≤ n := by
    intro n
    induction n with
    | zero =>
      intro p hp hd _
      rw [g_D_z hd, h0]
      exact Nat.le_refl 0
    | succ n ih =>
      intro p hp hd hn
      have hne : ¬ p = G 43 := fun z => by
        rw [z, show g_d (g_E G (G 25)) (G 43) (G 43) = 0 from g_D_0] at hd; omega
      obtain ⟨q, q1, q2, q3, q4⟩ := g_D_pred (E := g_E G (G 25)) h43 hp (by omega) hne
      have hq := ih q q1 (by omega) (by omega)
      have h2 := hf p q hp q1 hne
      rw [g_nb_c (by rw [g_E_sym]; exact q2)] at h2
      have h3 := g_co_up hW hc q1 (by omega) hN
      have h4 : g_d (g_E G (G 25)) (G 43) q = n := by omega
      rw [if_neg (by omega)] at h2
      omega
  intro c' p hcc hca hp
  by_cases e : c' = c
  · subst e
    by_cases h9 : g_d (g_E G (G 25)) (G 43) p < 10000
    · exact key _ p hp rfl h9
    · have := hle p hp; omega
  · exact hN c' p (by omega) hca hp
/-- by which way one goes at first -/
theorem g_nb_next {G : Nat → Nat} {N : Nat → Nat → Nat} {f q : Nat} (hW : WG G) (hf : f < 8) (hq : q < 8) (hl : g_d (g_E G (G 25)) (G 43) f < 10000) (h1 : NLo G N 0) (h2 : NUp G N 0) : g_nb G N f q 0 = g_d (g_E G (G 25)) (G 43) f ↔ (g_E G (G 25) f q = true ∧ g_d (g_E G (G 25)) (G 43) q + 1 = g_d (g_E G (G 25)) (G 43) f) := by
  have hc : 0 < g_al G := (g_al_le hW).2
  have h43 : G 43 < 8 := hW.2.2.2.2.2.2.2.2.1
  have n0 := g_n1_0 G
  by_cases hE : g_E G (G 25) f q = true
  · rw [g_nb_c hE]
    have a := g_co_lo hW hc hq n0 h1
    have b := g_co_up hW hc hq (h2 0 q (by omega) hc hq) (fun c' p hcc => h2 c' p (by omega))
    have := (g_D_step h43 hf hq hE hl)
    rw [if_neg (by omega)]
    constructor
    · intro h; exact ⟨hE, by omega⟩
    · intro h; omega
  · constructor
    · intro h
      exfalso
      unfold g_nb at h
      split at h
      · omega
      · rename_i hw
        obtain ⟨k, hk, hk0⟩ := g_wy_k hw
        rw [hk, Nat.add_sub_cancel] at h
        split at h
        · omega
        · split at h
          · omega
          · rename_i h2' h9
            unfold g_nd at h h9
            have h3 := g_kn_lt G 0 k
            have e1 : ¬ g_kn G 0 k = 1 := by
              intro e1
              by_cases hb : (G 25).testBit k = true
              · exact n0 k hk0 hb e1
              · apply hE
                unfold g_E
                rw [hk, Nat.add_sub_cancel]
                simp [hb]
            rw [if_neg e1] at h h9
            have e0 : g_kn G 0 k = 0 := by omega
            have a := h1 _ f (by omega) (g_upl hk0 hc e0) hf (g_n1_up hk0 n0 e0)
            have b := (g_mx_l (g_co G N q (0 + g_th G k)) (N (0 + 2 * g_th G k) f)).2
            omega
    · intro h; exact absurd h.1 hE
def g_sm (f : Nat → Nat) : Nat := f 0 + f 1 + f 2 + f 3 + f 4 + f 5 + f 6 + f 7
theorem g_sm_lt {f f' : Nat → Nat} {u : Nat} (hu : u < 8) (h : ∀ j, ¬ j = u → f' j = f j) (hl : f' u < f u) : g_sm f' < g_sm f := by
  unfold g_sm
  have key : ∀ j, f' j ≤ f j := fun j => by
    by_cases e : j = u
    · subst e; omega
    · rw [h j e]; exact Nat.le_refl _
  have k0 := key 0
  have k1 := key 1
  have k2 := key 2
  have k3 := key 3
  have k4 := key 4
  have k5 := key 5
  have k6 := key 6
  have k7 := key 7
  have hc : u = 0 ∨ u = 1 ∨ u = 2 ∨ u = 3 ∨ u = 4 ∨ u = 5 ∨ u = 6 ∨ u = 7 := by omega
  rcases hc with e | e | e | e | e | e | e | e <;> subst e <;> omega
def g_st (N : Nat → Nat → Nat) (c u v : Nat) : Nat → Nat → Nat := fun c' p => if c' = c ∧ p = u then v else N c' p
theorem g_st_e (N : Nat → Nat → Nat) (c u v : Nat) : g_st N c u v c u = v := if_pos ⟨rfl, rfl⟩
theorem g_st_c {N : Nat → Nat → Nat} {c u v c' p : Nat} (h : ¬ c' = c) : g_st N c u v c' p = N c' p := if_neg (fun z => h z.1)
theorem g_st_p {N : Nat → Nat → Nat} {c u v c' p : Nat} (h : ¬ p = u) : g_st N c u v c' p = N c' p := if_neg (fun z => h z.2)
theorem g_to_nb {G : Nat → Nat} {f : Nat} (hW : WG G) (hf : f < 8) (hl : g_d (g_E G (G 25)) (G 43) f < 10000) (hne : ¬ f = G 43) : ∃ b, g_to (g_E G (G 25)) (G 43) f = some b ∧ b < 8 ∧ (g_E G (G 25) f b = true ∧ g_d (g_E G (G 25)) (G 43) b + 1 = g_d (g_E G (G 25)) (G 43) f) ∧ ∀ j, j < b → ¬ (g_E G (G 25) f j = true ∧ g_d (g_E G (G 25)) (G 43) j + 1 = g_d (g_E G (G 25)) (G 43) f) := by
  have h43 : G 43 < 8 := hW.2.2.2.2.2.2.2.2.1
  obtain ⟨b, b1, b2, b3, b4⟩ := g_to_near (g_E_sym G (G 25)) h43 hf hl hne
  refine ⟨b, b1, b2, ⟨(g_to_spec b1).2, by omega⟩, fun j hj hz => ?_⟩
  rcases g_ch_spec (g_d (g_E G (G 25)) (G 43)) (g_E G (G 25) f) 8 with ⟨z, _⟩ | ⟨b0, z1, z2, z3, z4, z5⟩
  · rw [show g_ch (g_d (g_E G (G 25)) (G 43)) (g_E G (G 25) f) 8 = some b from b1] at z; cases z
  · rw [show g_ch (g_d (g_E G (G 25)) (G 43)) (g_E G (G 25) f) 8 = some b from b1] at z1
    cases z1
    have := (z5 j (by omega) hz.1).2
    have h2 : g_d (g_E G (G 25)) (G 43) j = g_d (g_E G (G 25)) (G 43) b := by omega
    have := this h2
    omega
