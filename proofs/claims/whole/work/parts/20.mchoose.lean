/-! THE REFERENCE: the choice, a journey -/
theorem g_d_le (E : Nat → Nat → Bool) (h q : Nat) : g_d E h q ≤ 10000 := by
  rcases g_d_spec E h q with ⟨a, _⟩ | ⟨a, _⟩ <;> omega
def LW (I : am_I) (G : Nat → Nat) : Prop := ∀ a b, a < 8 → b < 8 → I 7 (8 * a + b) = nI (g_wy G a b) - 1
theorem g_toI_neg (x : Option Nat) (h : ∀ q, x = some q → q < 8) : g_toI x < 0 ↔ x = none := by
  cases x with
  | none => exact ⟨fun _ => rfl, fun _ => by decide⟩
  | some q => exact ⟨fun z => absurd z (nI_pos (by have := h q rfl; omega)), fun z => by cases z⟩
def T_MD_choose : am_Sp := fun vs I L post => match vs with
  | [.ref o, .int x, .int y] => o = 0 ∧ ∃ G p b, WG G ∧ p < 8 ∧ x = nI p ∧ y = nI b ∧ LW I G ∧ (∀ q, q < 8 → I 8 q = nI (g_d (g_E G b) (G 43) q)) ∧ post (some (.int (g_toI (g_tgt G (p, b))))) I L
  | _ => False
def sp_MD_choose : Nat → am_Sp := fun i => match i with
  | 83 => T_MD_has
  | _ => am_no
set_option maxRecDepth 100000 in
set_option maxHeartbeats 4000000 in
theorem ok_MD_choose : am_Ok am_SM sp_MD_choose false k_MD_choose 7 T_MD_choose := by
  intro vs I L post h
  unfold T_MD_choose at h
  split at h
  · rename_i o x y
    obtain ⟨rfl, G, p, b, hW, hp, rfl, rfl, hL, hH, h⟩ := h
    refine ⟨Nat.le_of_ble_eq_true rfl, fun G2 hG2 => ?_⟩
    have h12 := hW.1
    have lt : ∀ n c, g_ch (g_d (g_E G b) (G 43)) (g_E G b p) n = some c → c < n := fun n c e => by
      rcases g_ch_spec (g_d (g_E G b) (G 43)) (g_E G b p) n with ⟨z, _⟩ | ⟨b0, z1, z2, _⟩
      · rw [e] at z; cases z
      · rw [e] at z1; cases z1; exact z2
    have loop : ∀ n k, 8 - k = n → k ≤ 8 → G2 5 [some (.ref 0), some (.int (nI p)), some (.int (nI b)), some (.int (g_toI (g_ch (g_d (g_E G b) (G 43)) (g_E G b p) k))), some (.int (nI k)), none, none] [] I L := by
      intro n
      induction n with
      | zero =>
        intro k hn hk
        have e : k = 8 := by omega
        subst e
        exact hG2 [(5, [1, 1, 1, 1, 1, 0, 0])] 50 5 _ _ _ _ (am_nt (am_nlt (Nat.le_refl 8) rfl) h)
      | succ n ih =>
        intro k hn hk
        have hk8 : k < 8 := by omega
        have nxt : ∀ z, z = g_ch (g_d (g_E G b) (G 43)) (g_E G b p) (k + 1) → G2 5 [some (.ref 0), some (.int (nI p)), some (.int (nI b)), some (.int (g_toI z)), some (.int (nI k + 1)), none, none] [] I L := fun z hz => by
          rw [nI_1, hz]; exact ih (k + 1) (by omega) (by omega)
        have ck : (nI k).toNatClampNeg = k := nI_clamp (by omega)
        have ix : ((8 : Int32) * nI p + nI k) = nI (8 * p + k) := by rw [show (8 : Int32) = nI 8 from rfl, pk_mul, nI_add]
        have vix : vp_in ((8 : Int32) * nI p + nI k) 64 := by rw [ix]; exact am_vin (by omega) rfl
        have vk : vp_in (nI k) 8 := am_vin hk8 rfl
        have hj : I 7 ((8 : Int32) * nI p + nI k).toNatClampNeg = nI (g_wy G p k) - 1 := by rw [ix, nI_clamp (by omega)]; exact hL p k hp hk8
        have hh : I 8 (nI k).toNatClampNeg = nI (g_d (g_E G b) (G 43) k) := by rw [ck]; exact hH k hk8
        have dl := g_d_le (g_E G b) (G 43) k
        generalize hd0 : g_d (g_E G b) (G 43) = d at *
        have no : ¬ (g_E G b p k = true ∧ d k < 10000) → G2 5 [some (.ref 0), some (.int (nI p)), some (.int (nI b)), some (.int (g_toI (g_ch d (g_E G b p) k))), some (.int (nI k + 1)), none, none] [] I L := fun hno => nxt _ (by
          simp only [g_ch]
          cases hc : g_ch d (g_E G b p) k with
          | none => simp only [if_neg hno]
          | some b0 =>
            have hb0 : d b0 < 10000 := by
              rcases g_ch_spec d (g_E G b p) k with ⟨z, _⟩ | ⟨b1, z1, _, _, z4, _⟩
              · rw [hc] at z; cases z
              · rw [hc] at z1; cases z1; exact z4
            simp only
            rw [if_neg (fun z => hno ⟨z.1, by omega⟩)])
        refine hG2 [(5, [1, 1, 1, 1, 1, 0, 0])] 12 5 _ _ _ _ (am_nf (am_lt hk8 rfl) (And.intro vix ?_))
        show G2 26 [some (.ref 0), some (.int (nI p)), some (.int (nI b)), some (.int (g_toI (g_ch d (g_E G b p) k))), some (.int (nI k)), some (.int (I 7 ((8 : Int32) * nI p + nI k).toNatClampNeg)), none] [] I L
        rw [hj]
        by_cases hE : g_E G b p k = true
        · obtain ⟨w, w1, w2, w3, w4⟩ := g_E_wy hE
          rw [w1, nI_pred]
          have hbit : f_h (nI b) (nI w) = am_b (b.testBit w = true) := f_h_nI b (by omega)
          refine hG2 [(5, [1, 1, 1, 1, 1, 0, 0])] 80 26 _ _ _ _ (am_f (nI_pos (by omega)) (am_nf (am_b0 (by rw [hbit, w4]; simp [am_b0])) (And.intro vk ?_)))
          by_cases hd : d k < 10000
          · refine am_nf (by rw [hh]; exact am_lt hd rfl) (am_f (by decide) ?_)
            cases hc : g_ch d (g_E G b p) k with
            | none =>
              refine am_t (by decide) ?_
              exact nxt (some k) (by simp only [g_ch, hc, if_pos (And.intro hE hd)])
            | some b0 =>
              have hb0 := lt k b0 hc
              have cb : (nI b0).toNatClampNeg = b0 := nI_clamp (by omega)
              have hh0 : I 8 (nI b0).toNatClampNeg = nI (d b0) := by rw [cb]; exact hH b0 (by omega)
              have dl0 : d b0 ≤ 10000 := by rw [← hd0]; exact g_d_le _ _ _
              refine am_f (show ¬ nI b0 < 0 from nI_pos (by omega)) (And.intro vk (And.intro (am_vin (by omega) rfl) ?_))
              by_cases hlt : d k < d b0
              · refine am_nf (show I 8 (nI k).toNatClampNeg < I 8 (nI b0).toNatClampNeg from by rw [hh, hh0]; exact nI_lt hlt (by omega)) ?_
                exact nxt (some k) (by simp only [g_ch, hc, if_pos (And.intro hE hlt)])
              · refine am_nt (show ¬ I 8 (nI k).toNatClampNeg < I 8 (nI b0).toNatClampNeg from by rw [hh, hh0]; exact nI_nlt (by omega) (by omega)) ?_
                exact nxt (some b0) (by simp only [g_ch, hc]; rw [if_neg (fun z => hlt z.2)])
          · refine am_nt (by rw [hh]; exact nI_nlt (show 10000 ≤ d k by omega) (by omega)) (am_t rfl ?_)
            exact no (fun z => hd z.2)
        · have hE2 : g_E G b p k = false := by simpa using hE
          rcases g_w_spec G p k (G 0) with ⟨z, _⟩ | ⟨w, z1, z2, z3⟩
          · rw [show g_wy G p k = 0 from z]
            refine hG2 [(5, [1, 1, 1, 1, 1, 0, 0])] 80 26 _ _ _ _ (am_t (by decide) (am_t rfl ?_))
            exact no (fun z => hE z.1)
          · have z1 : g_wy G p k = w + 1 := z1
            rw [z1, nI_pred]
            have hbw : b.testBit w = true := by
              unfold g_E at hE2
              rw [z1] at hE2
              simpa using hE2
            have hbit : f_h (nI b) (nI w) = am_b (b.testBit w = true) := f_h_nI b (by omega)
            refine hG2 [(5, [1, 1, 1, 1, 1, 0, 0])] 80 26 _ _ _ _ (am_f (nI_pos (by omega)) (am_nt (by rw [hbit, hbw]; simp [am_b1]) (am_t rfl ?_)))
            exact no (fun z => hE z.1)
    refine hG2 [(5, [1, 1, 1, 1, 1, 0, 0])] 50 0 _ _ _ _ ?_
    exact loop 8 0 (by omega) (by omega)
  · exact h.elim
theorem am_pigeon (f : Nat → Nat) (N : Nat) : ∀ i, (∀ j, j < i → f j < N) → (∀ j k, k < j → j < i → ¬ f k = f j) → i ≤ N := by
  have key : ∀ i, (∀ j, j < i → f j < N) → (∀ j k, k < j → j < i → ¬ f k = f j) → g_cnt (fun s => (List.range i).any (fun j => decide (f j = s))) N = i := by
    intro i
    induction i with
    | zero => intro _ _; exact g_cnt_zero N (fun j _ => rfl)
    | succ i ih =>
      intro h1 h2
      have e := ih (fun j hj => h1 j (by omega)) (fun j k a b => h2 j k a (by omega))
      rw [g_cnt_add (P := fun s => (List.range i).any (fun j => decide (f j = s))) (w := f i) ?_ ?_ ?_ N (h1 i (by omega)), e]
      · rw [Bool.eq_false_iff]
        intro hz
        rw [List.any_eq_true] at hz
        obtain ⟨j, a, b⟩ := hz
        rw [List.mem_range] at a
        exact h2 i j a (by omega) (by simpa using b)
      · rw [List.any_eq_true]
        exact ⟨i, List.mem_range.mpr (by omega), by simp⟩
      · intro s hs
        simp only [List.range_succ, List.any_append]
        have : ¬ f i = s := fun z => hs z.symm
        simp [this]
  intro i h1 h2
  rw [← key i h1 h2]
  exact g_cnt_le _ N
theorem g_S_bound {G : Nat → Nat} {kind snow stones f i : Nat} (hX : JX G kind stones f) (h : ∀ j, j < i → g_end G (g_S G kind snow stones f) j = 3) : i ≤ 32768 := by
  have hlt := g_S_lt (snow := snow) (kind := kind) hX.1 hX.2.2.1 hX.2.2.2
  refine am_pigeon (fun j => (g_S G kind snow stones f j).1 * 4096 + (g_S G kind snow stones f j).2) 32768 i (fun j _ => ?_) (fun j k hk hj e => ?_)
  · have := hlt j; omega
  · have a := hlt j
    have b := hlt k
    have hs := (g_end_3 (h j hj)).2.1
    have e2 : g_S G kind snow stones f k = g_S G kind snow stones f j := Prod.ext (by omega) (by omega)
    have : g_sn (g_S G kind snow stones f) j (g_S G kind snow stones f j) = true := by
      unfold g_sn
      rw [List.any_eq_true]
      exact ⟨k, List.mem_range.mpr hk, by simp [e2]⟩
    rw [hs] at this
    cases this
def MS (I : am_I) (c : Nat) : Prop := I 0 20 = nI c ∧ ∀ s, s < 32768 → ∃ n, n ≤ c ∧ I 10 s = nI n
