/-! THE LAW's OWN RUN, from behind its makings to its answer -/
theorem tr0 {ce : Nat → Int32} {I : am_I} {L : am_J} {post : am_Po} {B : am_A} (h : SB I L A_0 B) (k : ∀ (I2 : am_I) (L2 : am_J), SB I2 L2 (o_road ce) B → post (some (.int 1)) I2 L2) : T_two3 (T_LW_road ce) [.ref 0, .ref 71, .int 6, .ref 70] I L post := by
  refine Or.inl ⟨[.ref 0, .ref 36, .int 6, .ref 35], rfl, rfl, rfl, rfl, rfl, CR_fr h.1 (fun a ha => ?_) (fun a ha => ?_), fun I2 L2 h2 => k _ _ ⟨CR_fr h2 (fun a ha => ?_) (fun a ha => ?_), CR_fr h.2 (fun a ha => ?_) (fun a ha => ?_)⟩⟩
  · show I (am_f2 a) = I a
    unfold am_f2
    rw [if_pos (by omega)]
  · show L (am_f2 a) = L a
    unfold am_f2
    rw [if_pos (by omega)]
  · unfold am_pt am_g2
    rw [if_pos (by omega)]
  · unfold am_pt am_g2
    rw [if_pos (by omega)]
  · show am_pt am_g2 I I2 (a + 35) = I (a + 35)
    unfold am_pt am_g2
    rw [if_neg (by omega), if_neg (by omega)]
  · show am_pt am_g2 L L2 (a + 35) = L (a + 35)
    unfold am_pt am_g2
    rw [if_neg (by omega), if_neg (by omega)]
theorem tr1 {ce : Nat → Int32} {I : am_I} {L : am_J} {post : am_Po} {A : am_A} (h : SB I L A A_0) (k : ∀ (I2 : am_I) (L2 : am_J), SB I2 L2 A (o_road ce) → post (some (.int 1)) I2 L2) : T_two3 (T_LW_road ce) [.ref 35, .ref 71, .int 6, .ref 70] I L post := by
  refine Or.inr ⟨[.ref 0, .ref 36, .int 6, .ref 35], rfl, rfl, rfl, rfl, rfl, h.2, fun I2 L2 h2 => k _ _ ⟨CR_fr h.1 (fun a ha => ?_) (fun a ha => ?_), CR_fr h2 (fun a ha => ?_) (fun a ha => ?_)⟩⟩
  · unfold am_pt am_g3
    rw [if_neg (by omega)]
  · unfold am_pt am_g3
    rw [if_neg (by omega)]
  · show am_pt am_g3 I I2 (a + 35) = I2 a
    unfold am_pt am_g3
    rw [if_pos (by omega)]
    simp
  · show am_pt am_g3 L L2 (a + 35) = L2 a
    unfold am_pt am_g3
    rw [if_pos (by omega)]
    simp
section OS
variable {W : Nat → Nat} {X : (Nat → Nat) × Bool × Nat × (Nat → Nat) × (Nat → Int32) × (Nat → Nat) × (Nat → Nat → Int64)}
theorem oe_home (hW : WG W) : ∃ r W', o_home (W, X) 2 = (r, (W', X)) ∧ ¬ r < 0 := by
  have h43 : W 43 < 8 := hW.2.2.2.2.2.2.2.2.1
  refine ⟨_, _, oh_N (p := 2) (by omega), nI_pos (by omega)⟩
theorem oe_snow (hW : WG W) : ∃ r W', o_snow (W, X) 0 = (r, (W', X)) ∧ ¬ r < 0 := by
  have h44 : W 44 < 2 ^ 12 := hW.2.2.2.2.2.2.2.2.2.1
  refine ⟨nI (W 44), g_put W 44 (0 : Int32).toNatClampNeg, ?_, nI_pos (by omega)⟩
  unfold o_snow; dsimp only
  rw [if_neg (fun q => q (by
    apply b_ext
    intro i hi
    rw [b_and, b_0]
    rfl))]
theorem oe_strike : ∃ r W', o_strike (W, X) 1 = (r, (W', X)) ∧ ¬ r < -2 := by
  unfold o_strike; dsimp only
  rw [if_neg (by decide)]
  split
  · exact ⟨_, _, rfl, by decide⟩
  · refine ⟨_, _, rfl, fun q => ?_⟩
    have := g_pc_le (g_clr (W 26) (1 : Int32).toNatClampNeg) 12
    rw [Int32.lt_iff_toInt_lt, nI_toInt (by omega), show (-2 : Int32).toInt = -2 from rfl] at q
    omega
theorem oe_way (hW : WG W) : ∃ r W', o_way (W, X) 0 5 1 = (r, (W', X)) ∧ ¬ r < -3 := by
  have h12 := hW.1
  unfold o_way; dsimp only
  rw [if_neg (by decide)]
  split
  · exact ⟨_, _, rfl, by decide⟩
  · split
    · exact ⟨_, _, rfl, by decide⟩
    · refine ⟨_, _, rfl, fun q => ?_⟩
      rw [Int32.lt_iff_toInt_lt, nI_toInt (by omega), show (-3 : Int32).toInt = -3 from rfl] at q
      omega
end OS
def sp_LW_law (ce : Nat → Int32) : Nat → am_Sp := fun i => match i with
  | 9 => T_LW_cell 71 ce
  | 132 => T_two T_LW_isLeft
  | 136 => T_two3 (T_LW_road ce)
  | 140 => T_LW_areAlike
  | 144 => T_two T_LW_act
  | 27 => T_two T_RP_way
  | 37 => T_two T_RP_home
  | 40 => T_two T_RP_snow
  | 54 => T_two T_RP_strike
  | 74 => T_two T_RP_restore
  | 77 => T_two T_RP_image
  | _ => am_no
set_option maxHeartbeats 16000000 in
set_option maxRecDepth 100000 in
theorem law_run {ce : Nat → Int32} {post : am_Po} {G : am_G} (hG : ∀ (cuts : List (Nat × List Nat)) (n pc : Nat) (ls : am_Lv) (st : List Value) (I : am_I) (L : am_J), am_ev am_SB (sp_LW_law ce) true post k_LW_law cuts G n pc ls st I L → G pc ls st I L) (hend : ∀ (ls : am_Lv) (I : am_I) (L : am_J), G 239 ls [.int 1] I L) {I : am_I} {L : am_J} (h0 : SB I L A_0 A_0) : G 21 [some (.ref 71), some (.ref 0), some (.ref 35), some (.ref 70), none, none, none] [] I L := by
  have s221 : ∀ (I : am_I) (L : am_J) (A B : am_A) (k x : Int32), SB I L A B → A.1 = B.1 → ∀ y : Option Value, G 221 [some (.ref 71), some (.ref 0), some (.ref 35), some (.ref 70), some (.int 1), some (.int k), y] [] I L := fun I L A B k x h e y =>
    hG [(239, [])] 60 221 _ _ _ _ (am_f (by decide) (And.intro rfl (And.intro rfl (Exists.intro A (Exists.intro B (And.intro h (And.intro e (fun I2 L2 h2 => am_f (by decide) (hend _ I2 L2)))))))))
  have fin : ∀ (I : am_I) (L : am_J) (A : am_A) (k : Int32) (y : Option Value), SB I L A A → G 155 [some (.ref 71), some (.ref 0), some (.ref 35), some (.ref 70), some (.int 1), some (.int k), y] [] I L := by
    intro I L A k y h
    obtain ⟨W, K, hk, R⟩ := A
    have s206 : ∀ (I : am_I) (L : am_J) (W1 : Nat → Nat), SB I L (W, K, hk, R) (W1, W, true, R) → G 206 [some (.ref 71), some (.ref 0), some (.ref 35), some (.ref 70), some (.int 1), some (.int k), y] [] I L := fun I L W1 h =>
      hG [(221, [])] 60 206 _ _ _ _ (tw1 (r := 1) (B2 := (W, W, true, R)) (fun post2 hp2 => And.intro rfl (Exists.intro (W1, W, true, R) (And.intro h.2 (fun Ix Lx hx => hp2 Ix Lx hx)))) rfl h (fun I2 L2 h2 => am_nf rfl (s221 I2 L2 _ _ k 0 h2 rfl y)))
    have s194 : ∀ (I : am_I) (L : am_J) (W1 : Nat → Nat), SB I L (W, K, hk, R) (W1, W, true, R) → G 194 [some (.ref 71), some (.ref 0), some (.ref 35), some (.ref 70), some (.int 1), some (.int k), y] [] I L := fun I L W1 h => by
      obtain ⟨r, W2, e, hr⟩ := oe_way (X := (W, true, R)) (show WG W1 from h.2.V.1)
      exact hG [(206, [])] 60 194 _ _ _ _ (tw1 (r := r) (B2 := (W2, W, true, R)) (fun post2 hp2 => And.intro rfl (Exists.intro (W1, W, true, R) (And.intro h.2 (fun Ix Lx hx => by rw [e] at hx ⊢; exact hp2 Ix Lx hx)))) rfl h (fun I2 L2 h2 => am_f hr (s206 I2 L2 W2 h2)))
    have s184 : ∀ (I : am_I) (L : am_J) (W1 : Nat → Nat), SB I L (W, K, hk, R) (W1, W, true, R) → G 184 [some (.ref 71), some (.ref 0), some (.ref 35), some (.ref 70), some (.int 1), some (.int k), y] [] I L := fun I L W1 h => by
      obtain ⟨r, W2, e, hr⟩ := oe_strike (W := W1) (X := (W, true, R))
      exact hG [(194, [])] 60 184 _ _ _ _ (tw1 (r := r) (B2 := (W2, W, true, R)) (fun post2 hp2 => And.intro rfl (Exists.intro (W1, W, true, R) (And.intro h.2 (fun Ix Lx hx => by rw [e] at hx ⊢; exact hp2 Ix Lx hx)))) rfl h (fun I2 L2 h2 => am_f hr (s194 I2 L2 W2 h2)))
    have s176 : ∀ (I : am_I) (L : am_J) (W1 : Nat → Nat), SB I L (W, K, hk, R) (W1, W, true, R) → G 176 [some (.ref 71), some (.ref 0), some (.ref 35), some (.ref 70), some (.int 1), some (.int k), y] [] I L := fun I L W1 h => by
      obtain ⟨r, W2, e, hr⟩ := oe_snow (X := (W, true, R)) (show WG W1 from h.2.V.1)
      exact hG [(184, [])] 60 176 _ _ _ _ (tw1 (r := r) (B2 := (W2, W, true, R)) (fun post2 hp2 => And.intro rfl (Exists.intro (W1, W, true, R) (And.intro h.2 (fun Ix Lx hx => by rw [e] at hx ⊢; exact hp2 Ix Lx hx)))) rfl h (fun I2 L2 h2 => am_f hr (s184 I2 L2 W2 h2)))
    have s168 : ∀ (I : am_I) (L : am_J) (W1 : Nat → Nat), SB I L (W, K, hk, R) (W1, W, true, R) → G 168 [some (.ref 71), some (.ref 0), some (.ref 35), some (.ref 70), some (.int 1), some (.int k), y] [] I L := fun I L W1 h => by
      obtain ⟨r, W2, e, hr⟩ := oe_home (X := (W, true, R)) (show WG W1 from h.2.V.1)
      exact hG [(176, [])] 60 168 _ _ _ _ (tw1 (r := r) (B2 := (W2, W, true, R)) (fun post2 hp2 => And.intro rfl (Exists.intro (W1, W, true, R) (And.intro h.2 (fun Ix Lx hx => by rw [e] at hx ⊢; exact hp2 Ix Lx hx)))) rfl h (fun I2 L2 h2 => am_f hr (s176 I2 L2 W2 h2)))
    exact hG [(168, [])] 60 155 _ _ _ _ (am_f (by decide) (tw1 (r := 1) (B2 := (W, W, true, R)) (fun post2 hp2 => And.intro rfl (Exists.intro (W, K, hk, R) (And.intro h.2 (fun Ix Lx hx => hp2 Ix Lx hx)))) rfl h (fun I2 L2 h2 => am_nf rfl (s168 I2 L2 W h2))))
  have loop : ∀ n k : Nat, 20 - k = n → k ≤ 20 → ∀ (I : am_I) (L : am_J) (A : am_A), SB I L A A → G 85 [some (.ref 71), some (.ref 0), some (.ref 35), some (.ref 70), some (.int 1), some (.int (nI k)), none] [] I L := by
    intro n
    induction n with
    | zero =>
      intro k hn hk I L A h
      have : k = 20 := by omega
      subst this
      exact hG [(155, [])] 60 85 _ _ _ _ (am_nt (by decide) (fin I L A _ _ h))
    | succ n ih =>
      intro k hn hk I L A h
      have e12 : (12 : Int32) + nI k = nI (12 + k) := by rw [show (12 : Int32) = nI 12 from rfl, nI_add]
      have s108 : ∀ (I : am_I) (L : am_J), SB I L A A → G 108 [some (.ref 71), some (.ref 0), some (.ref 35), some (.ref 70), some (.int 1), some (.int (nI k)), some (.int (ce (12 + k)))] [] I L := fun I L h => by
        refine hG [(85, [1, 1, 1, 1, 1, 1, 0])] 90 108 _ _ _ _ (tw0 (fun post2 hp2 => And.intro rfl (Exists.intro A (And.intro h.1 (fun Ix Lx hx => hp2 Ix Lx hx)))) rfl h (fun I1 L1 h1 => tw1 (fun post2 hp2 => And.intro rfl (Exists.intro A (And.intro h1.2 (fun Ix Lx hx => hp2 Ix Lx hx)))) rfl h1 (fun I2 L2 h2 => am_nf rfl (tw1 (fun post2 hp2 => And.intro rfl (Exists.intro _ (And.intro h2.2 (fun Ix Lx hx => hp2 Ix Lx hx)))) rfl h2 (fun I3 L3 h3 => am_f (by decide) (And.intro rfl (And.intro rfl (Exists.intro _ (Exists.intro _ (And.intro h3 (And.intro rfl (fun I4 L4 h4 => am_f (by decide) ?_))))))))))))
        show G 85 [some (.ref 71), some (.ref 0), some (.ref 35), some (.ref 70), some (.int 1), some (.int (nI k + 1)), none] [] I4 L4
        rw [nI_1]
        exact ih (k + 1) (by omega) (by omega) I4 L4 _ h4
      exact hG [(108, [])] 60 85 _ _ _ _ (am_nf (am_lt (show k < 20 by omega) rfl) (am_f (by decide) (And.intro rfl (Exists.intro (12 + k) (And.intro e12 (And.intro (by omega) (s108 I L h)))))))
  have s55 : ∀ (I : am_I) (L : am_J) (A : am_A), SB I L A A → G 55 [some (.ref 71), some (.ref 0), some (.ref 35), some (.ref 70), none, none, none] [] I L := fun I L A h =>
    hG [(85, [])] 90 55 _ _ _ _ (And.intro rfl (Exists.intro 0 (And.intro rfl (And.intro (by omega) (tw1 (fun post2 hp2 => And.intro rfl (Exists.intro _ (And.intro h.2 (fun Ix Lx hx => hp2 Ix Lx hx)))) rfl h (fun I3 L3 h3 => am_f (by decide) (And.intro rfl (And.intro rfl (Exists.intro _ (Exists.intro _ (And.intro h3 (And.intro rfl (fun I4 L4 h4 => am_f (by decide) (loop 20 0 (by omega) (by omega) I4 L4 _ h4))))))))))))))
  have s33 : ∀ (I : am_I) (L : am_J), SB I L A_0 A_0 → G 33 [some (.ref 71), some (.ref 0), some (.ref 35), some (.ref 70), none, none, none] [] I L := fun I L h =>
    hG [(55, [])] 90 33 _ _ _ _ (tr0 h (fun I1 L1 h1 => am_f (by decide) (tr1 h1 (fun I2 L2 h2 => am_f (by decide) (s55 I2 L2 _ h2)))))
  exact hG [(33, [])] 90 21 _ _ _ _ (And.intro rfl (Exists.intro 1 (And.intro rfl (And.intro (by omega) (tw1 (fun post2 hp2 => And.intro rfl (Exists.intro _ (And.intro h0.2 (fun Ix Lx hx => hp2 Ix Lx hx)))) rfl h0 (fun I3 L3 h3 => am_f (by decide) (s33 I3 L3 h3)))))))
