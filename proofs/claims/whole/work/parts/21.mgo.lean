/-! THE REFERENCE: go -/
/-- what has been marked: the states up to step i -/
def MK (I : am_I) (S : Nat → Nat × Nat) (c i : Nat) : Prop := ∀ s, s < 32768 → (I 10 s = nI c ↔ ∃ j, j ≤ i ∧ (S j).1 * 4096 + (S j).2 = s) ∧ ∃ n, n ≤ c ∧ I 10 s = nI n
/-- where the reader stands, as far as it is kept -/
def ST (I : am_I) (S : Nat → Nat × Nat) (i : Nat) : Prop := ∀ j, j ≤ i → j < 100 → I 9 j = nI (S j).1
def GF (I I2 : am_I) : Prop := (∀ a, a ≠ 0 → a ≠ 8 → a ≠ 9 → a ≠ 10 → I2 a = I a) ∧ (∀ k, k ≠ 15 → k ≠ 16 → k ≠ 17 → k ≠ 18 → k ≠ 20 → I2 0 k = I 0 k)
theorem GF_tr {I I2 I3 : am_I} (h1 : GF I I2) (h2 : GF I2 I3) : GF I I3 := ⟨fun a x y z w => (h2.1 a x y z w).trans (h1.1 a x y z w), fun k a b c d e => (h2.2 k a b c d e).trans (h1.2 k a b c d e)⟩
theorem GF_0 {I : am_I} {k : Nat} {x : Int32} (h : k = 15 ∨ k = 16 ∨ k = 17 ∨ k = 18 ∨ k = 20) : GF I (am_ui I 0 k x) := ⟨fun a ha _ _ _ => am_ui_o ha, fun q a b c d e => am_ui_n (by omega)⟩
theorem GF_a {I : am_I} {o k : Nat} {x : Int32} (h : o = 8 ∨ o = 9 ∨ o = 10) : GF I (am_ui I o k x) := ⟨fun a h0 h8 h9 h10 => am_ui_o (by omega), fun q _ _ _ _ _ => am_ui_n (by omega)⟩
def T_MD_go : am_Sp := fun vs I L post => match vs with
  | [.ref o, .int x, .int y, .int z, .int u] => o = 0 ∧ ∃ G kind f snow stones c, JX G kind stones f ∧ RM I 0 G ∧ x = nI kind ∧ y = nI f ∧ z = nI snow ∧ u = nI stones ∧ LW I G ∧ MS I c ∧ c < 1073741824 ∧ ∀ (n : Nat) (I2 : am_I), ¬ g_end G (g_S G kind snow stones f) n = 3 → (∀ j, j < n → g_end G (g_S G kind snow stones f) j = 3) → I2 0 15 = nI n → I2 0 16 = nI (g_end G (g_S G kind snow stones f) n) → I2 0 17 = nI (g_S G kind snow stones f n).1 → I2 0 18 = nI (g_S G kind snow stones f n).2 → ST I2 (g_S G kind snow stones f) n → MS I2 (c + 1) → GF I I2 → post none I2 L
  | _ => False
def sp_MD_go : Nat → am_Sp := fun i => match i with
  | 83 => T_MD_has
  | 141 => T_MD_layHomes
  | 145 => T_MD_choose
  | 148 => T_MD_reads
  | _ => am_no
set_option maxRecDepth 100000 in
set_option maxHeartbeats 4000000 in
theorem ok_MD_go : am_Ok am_SM sp_MD_go false k_MD_go 9 T_MD_go := by
  intro vs I L post h
  unfold T_MD_go at h
  split at h
  · rename_i o x y z u
    obtain ⟨rfl, G, kind, f, snow, stones, c, hX, hM, rfl, rfl, rfl, rfl, hL, hMS, hc, h⟩ := h
    refine ⟨Nat.le_of_ble_eq_true rfl, fun G2 hG2 => ?_⟩
    have h12 := hX.1.1
    have h43 : G 43 < 8 := hX.1.2.2.2.2.2.2.2.2.1
    have hlt := g_S_lt (snow := snow) (kind := kind) hX.1 hX.2.2.1 hX.2.2.2
    generalize hSe : g_S G kind snow stones f = S at *
    have hS0 : S 0 = (f, 0) := by rw [← hSe]; rfl
    have hS1 : ∀ i, S (i + 1) = g_nx G kind snow stones (S i) := fun i => by rw [← hSe]; rfl
    have hbnd : ∀ i, (∀ j, j < i → g_end G S j = 3) → i ≤ 32768 := fun i hi => by
      rw [← hSe] at hi; exact g_S_bound hX hi
    have v43 : vp_in (43 : Int32) 90 := am_vin (n := 43) (by decide) rfl
    -- the end
    have fin : ∀ i (I1 : am_I), ¬ g_end G S i = 3 → (∀ j, j < i → g_end G S j = 3) → I1 0 15 = nI i → I1 0 16 = nI (g_end G S i) → I1 0 20 = nI (c + 1) → ST I1 S i → (∀ s, s < 32768 → ∃ n, n ≤ c + 1 ∧ I1 10 s = nI n) → GF I I1 → G2 51 [some (.ref 0), some (.int (nI kind)), some (.int (nI f)), some (.int (nI snow)), some (.int (nI stones)), some (.int (nI (S i).1)), some (.int (nI (S i).2)), none, none] [] I1 L := by
      intro i I1 he hp h15 h16 h20 hst hms hgf
      have h4 := g_end_lt G S i
      refine hG2 [] 100 51 _ _ _ _ (And.intro (fun _ => ?_) (fun q => absurd q (by rw [h16]; exact nI_pos (by omega))))
      show post none (am_ui (am_ui I1 0 17 (nI (S i).1)) 0 18 (nI (S i).2)) L
      have e9 : ∀ a, a ≠ 0 → am_ui (am_ui I1 0 17 (nI (S i).1)) 0 18 (nI (S i).2) a = I1 a := fun a ha => (am_ui_o ha).trans (am_ui_o ha)
      refine h i _ he hp ((am_ui_n (by omega)).trans ((am_ui_n (by omega)).trans h15)) ((am_ui_n (by omega)).trans ((am_ui_n (by omega)).trans h16)) ((am_ui_n (by omega)).trans am_ui_e) am_ui_e (fun j h1 h2 => by rw [e9 9 (by omega)]; exact hst j h1 h2) ⟨(am_ui_n (by omega)).trans ((am_ui_n (by omega)).trans h20), fun s hs => by rw [e9 10 (by omega)]; exact hms s hs⟩ (GF_tr hgf (GF_tr (GF_0 (by omega)) (GF_0 (by omega))))
    -- the rounds of the loop
    have loop : ∀ d i (I1 : am_I), 32769 - i = d → (∀ j, j < i → g_end G S j = 3) → I1 0 15 = nI i → I1 0 16 = (if ¬ (S i).1 = G 43 ∧ g_sn S i (S i) = true then 2 else -1) → I1 0 20 = nI (c + 1) → ST I1 S i → MK I1 S (c + 1) i → GF I I1 → G2 51 [some (.ref 0), some (.int (nI kind)), some (.int (nI f)), some (.int (nI snow)), some (.int (nI stones)), some (.int (nI (S i).1)), some (.int (nI (S i).2)), none, none] [] I1 L := by
      intro d
      induction d with
      | zero => intro i I1 hd hp; have := hbnd i hp; omega
      | succ d ih =>
        intro i I1 hd hp h15 h16 h20 hst hmk hgf
        have hi := hbnd i hp
        have hms : ∀ s, s < 32768 → ∃ n, n ≤ c + 1 ∧ I1 10 s = nI n := fun s hs => (hmk s hs).2
        by_cases hr : ¬ (S i).1 = G 43 ∧ g_sn S i (S i) = true
        · rw [if_pos hr] at h16
          have he : g_end G S i = 2 := by unfold g_end; rw [if_neg hr.1, if_pos hr.2]
          exact fin i I1 (by omega) hp h15 (by rw [h16, he]; rfl) h20 hst hms hgf
        · rw [if_neg hr] at h16
          obtain ⟨p, b, hs⟩ : ∃ p b, S i = (p, b) := ⟨_, _, rfl⟩
          have hpb := hlt i
          have hRM1 : RM I1 0 G := RM_fr hM (hgf.1 1 (by omega) (by omega) (by omega) (by omega))
          rw [hs] at hpb hr ⊢
          dsimp only at hpb hr ⊢
          refine hG2 [(51, [1, 1, 1, 1, 1, 1, 1, 0, 0]), (195, [1, 1, 1, 1, 1, 1, 1, 0, 0])] 200 51 _ _ _ _ (am_nf (by rw [h16]; decide) ?_)
          refine And.intro (rfl) (Exists.intro (G) (Exists.intro (b) (And.intro (hX.1) (And.intro (hRM1) (And.intro (rfl) (fun I2 hH hH2 => ?_))))))
          have hgf2 : GF I I2 := GF_tr hgf ⟨fun a _ h8 _ _ => hH2 a h8, fun k _ _ _ _ _ => by rw [hH2 0 (by omega)]⟩
          have hRM2 : RM I2 0 G := RM_fr hM (hgf2.1 1 (by omega) (by omega) (by omega) (by omega))
          have hLW2 : LW I2 G := fun x y hx hy => by rw [hgf2.1 7 (by omega) (by omega) (by omega) (by omega)]; exact hL x y hx hy
          have e0 : I2 0 = I1 0 := hH2 0 (by omega)
          have e9 : I2 9 = I1 9 := hH2 9 (by omega)
          have e10 : I2 10 = I1 10 := hH2 10 (by omega)
          have w43 : I2 1 (43 : Int32).toNatClampNeg = nI (G 43) := RM_i hRM2 43 (by omega)
          refine And.intro (rfl) (Exists.intro (G) (Exists.intro (p) (Exists.intro (b) (And.intro (hX.1) (And.intro (hpb.1) (And.intro (rfl) (And.intro (rfl) (And.intro (hLW2) (And.intro (hH) (And.intro v43 ?_))))))))))
          -- who is home, or lost
          have stop : ¬ g_end G S i = 3 → G2 51 [some (.ref 0), some (.int (nI kind)), some (.int (nI f)), some (.int (nI snow)), some (.int (nI stones)), some (.int (nI p)), some (.int (nI b)), none, none] [] (am_ui I2 0 16 (nI (g_end G S i))) L := fun he => by
            have := fin i (am_ui I2 0 16 (nI (g_end G S i))) he hp ((am_ui_n (by omega)).trans (by rw [e0]; exact h15)) am_ui_e ((am_ui_n (by omega)).trans (by rw [e0]; exact h20)) (fun j h1 h2 => by rw [am_ui_o (by omega), e9]; exact hst j h1 h2) (fun s hs => by rw [am_ui_o (by omega), e10]; exact hms s hs) (GF_tr hgf2 (GF_0 (by omega)))
            rw [hs] at this
            exact this
          by_cases hh : p = G 43
          · have he : g_end G S i = 0 := by unfold g_end; rw [hs, if_pos hh]
            have st := stop (by omega)
            rw [he] at st
            refine am_t (by rw [w43, hh]) (And.intro v43 (am_nf (by rw [w43, hh]) ?_))
            exact st
          · have hsn : g_sn S i (p, b) = false := by
              cases q : g_sn S i (p, b) with
              | false => rfl
              | true => exact absurd ⟨hh, q⟩ hr
            refine am_f (by rw [w43, nI_eq (by omega) (by omega)]; exact hh) ?_
            cases ht : g_tgt G (p, b) with
            | none =>
              have he : g_end G S i = 1 := by unfold g_end; rw [hs, if_neg hh, hsn]; simp [ht]
              have st := stop (by omega)
              rw [he] at st
              refine am_nf (by decide) (And.intro v43 (am_nt (by rw [w43, nI_eq (by omega) (by omega)]; exact hh) ?_))
              exact st
            | some t =>
              have he : g_end G S i = 3 := by unfold g_end; rw [hs, if_neg hh, hsn]; simp [ht]
              obtain ⟨ht8, hE⟩ := g_to_spec ht
              obtain ⟨w, w1, w2, w3, w4⟩ := g_E_wy hE
              dsimp only at w1
              have hp1 : ∀ j, j < i + 1 → g_end G S j = 3 := fun j hj => by
                rcases Nat.lt_or_ge j i with z | z
                · exact hp j z
                · rw [show j = i by omega]; exact he
              have hnx : S (i + 1) = if snow.testBit w = true then (p, g_set b w) else (t, g_heed G kind snow stones t p (g_clr b w)) := by
                rw [hS1, hs]
                unfold g_nx
                rw [ht]
                dsimp only
                rw [w1]
                rfl
              -- behind the step
              have tail : ∀ p' b', S (i + 1) = (p', b') → G2 195 [some (.ref 0), some (.int (nI kind)), some (.int (nI f)), some (.int (nI snow)), some (.int (nI stones)), some (.int (nI p')), some (.int (nI b')), none, none] [] I2 L := by
                intro p' b' hs1
                have hpb1 := hlt (i + 1)
                rw [hs1] at hpb1
                dsimp only at hpb1
                have h15' : I2 0 15 = nI i := by rw [e0]; exact h15
                have h20' : I2 0 20 = nI (c + 1) := by rw [e0]; exact h20
                obtain ⟨I3, hI3⟩ : ∃ I3 : am_I, I3 = am_ui I2 0 15 (nI (i + 1)) := ⟨_, rfl⟩
                have g3 : GF I I3 := by rw [hI3]; exact GF_tr hgf2 (GF_0 (by omega))
                have a15 : I3 0 15 = nI (i + 1) := by rw [hI3]; exact am_ui_e
                have a20 : I3 0 20 = nI (c + 1) := by rw [hI3]; exact (am_ui_n (by omega)).trans h20'
                have a9 : I3 9 = I1 9 := by rw [hI3]; exact (am_ui_o (by omega)).trans e9
                have a10 : I3 10 = I1 10 := by rw [hI3]; exact (am_ui_o (by omega)).trans e10
                have ixe : (4096 : Int32) * nI p' + nI b' = nI (p' * 4096 + b') := by rw [show (4096 : Int32) = nI 4096 from rfl, pk_mul, nI_add, Nat.mul_comm]
                have hix : p' * 4096 + b' < 32768 := by omega
                have vix : vp_in ((4096 : Int32) * nI p' + nI b') 32768 := by rw [ixe]; exact am_vin hix rfl
                have cix : ((4096 : Int32) * nI p' + nI b').toNatClampNeg = p' * 4096 + b' := by rw [ixe, nI_clamp (by omega)]
                -- behind the keeping of the place
                have mark : ∀ I4 : am_I, GF I I4 → I4 0 15 = nI (i + 1) → I4 0 20 = nI (c + 1) → I4 10 = I1 10 → ST I4 S (i + 1) → G2 225 [some (.ref 0), some (.int (nI kind)), some (.int (nI f)), some (.int (nI snow)), some (.int (nI stones)), some (.int (nI p')), some (.int (nI b')), none, none] [] I4 L := by
                  intro I4 g4 b15 b20 b10 bst
                  have y43 : I4 1 (43 : Int32).toNatClampNeg = nI (G 43) := RM_i (RM_fr hM (g4.1 1 (by omega) (by omega) (by omega) (by omega))) 43 (by omega)
                  have hsn1 : (I1 10 (p' * 4096 + b') = nI (c + 1)) ↔ g_sn S (i + 1) (p', b') = true := by
                    rw [(hmk _ hix).1]
                    unfold g_sn
                    rw [List.any_eq_true]
                    constructor
                    · rintro ⟨j, hj, e⟩
                      have := hlt j
                      exact ⟨j, List.mem_range.mpr (by omega), by simp only [decide_eq_true_eq]; exact Prod.ext (by dsimp only; omega) (by dsimp only; omega)⟩
                    · rintro ⟨j, hj, e⟩
                      simp only [decide_eq_true_eq] at e
                      exact ⟨j, by have := List.mem_range.mp hj; omega, by rw [e]⟩
                  have go : ∀ z : Int32, z = (if ¬ p' = G 43 ∧ g_sn S (i + 1) (p', b') = true then 2 else -1) → G2 51 [some (.ref 0), some (.int (nI kind)), some (.int (nI f)), some (.int (nI snow)), some (.int (nI stones)), some (.int (nI p')), some (.int (nI b')), none, none] [] (am_ui (am_ui I4 0 16 z) 10 ((4096 : Int32) * nI p' + nI b').toNatClampNeg (am_ui I4 0 16 z 0 20)) L := by
                    intro z hz
                    rw [cix, am_ui_n (by omega), b20]
                    have := ih (i + 1) (am_ui (am_ui I4 0 16 z) 10 (p' * 4096 + b') (nI (c + 1))) (by omega) hp1 ((am_ui_n (by omega)).trans ((am_ui_n (by omega)).trans b15)) (by rw [am_ui_n (by omega), am_ui_e, hz, hs1]) ((am_ui_n (by omega)).trans ((am_ui_n (by omega)).trans b20)) (fun j h1 h2 => by rw [am_ui_o (by omega), am_ui_o (by omega)]; exact bst j h1 h2) (fun s hss => by
                      have hb := hmk s hss
                      rw [am_ui_r]
                      by_cases e : s = p' * 4096 + b'
                      · rw [if_pos ⟨rfl, e⟩]
                        exact ⟨⟨fun _ => ⟨i + 1, Nat.le_refl _, by rw [hs1]; exact e.symm⟩, fun _ => rfl⟩, c + 1, Nat.le_refl _, rfl⟩
                      · rw [if_neg (fun z => e z.2), am_ui_o (by omega), b10]
                        refine ⟨hb.1.trans ⟨fun ⟨j, x1, x2⟩ => ⟨j, by omega, x2⟩, fun ⟨j, x1, x2⟩ => ⟨j, ?_, x2⟩⟩, hb.2⟩
                        rcases Nat.lt_or_ge j (i + 1) with y | y
                        · omega
                        · rw [show j = i + 1 by omega, hs1] at x2
                          exact absurd x2.symm e) (GF_tr g4 (GF_tr (GF_0 (by omega)) (GF_a (by omega))))
                    rw [hs1] at this
                    exact this
                  by_cases hph : p' = G 43
                  · refine hG2 [(51, [1, 1, 1, 1, 1, 1, 1, 0, 0]), (195, [1, 1, 1, 1, 1, 1, 1, 0, 0])] 200 225 _ _ _ _ (And.intro v43 (am_t (by rw [y43, hph]) (And.intro vix ?_)))
                    exact go (-1) (by rw [if_neg (fun z => z.1 hph)])
                  · refine hG2 [(51, [1, 1, 1, 1, 1, 1, 1, 0, 0]), (195, [1, 1, 1, 1, 1, 1, 1, 0, 0])] 200 225 _ _ _ _ (And.intro v43 (am_f (by rw [y43, nI_eq (by omega) (by omega)]; exact hph) (And.intro vix ?_)))
                    by_cases hq : g_sn S (i + 1) (p', b') = true
                    · refine am_nf (by rw [b20, cix, b10]; exact hsn1.mpr hq) (And.intro vix ?_)
                      exact go 2 (by rw [if_pos ⟨hph, hq⟩])
                    · refine am_nt (by rw [b20, cix, b10]; exact fun z => hq (hsn1.mp z)) (And.intro vix ?_)
                      exact go (-1) (by rw [if_neg (fun z => hq z.2)])
                refine hG2 [] 6 195 _ _ _ _ ?_
                show G2 205 [some (.ref 0), some (.int (nI kind)), some (.int (nI f)), some (.int (nI snow)), some (.int (nI stones)), some (.int (nI p')), some (.int (nI b')), none, none] [] (am_ui I2 0 15 (I2 0 15 + 1)) L
                rw [h15', nI_1, ← hI3]
                by_cases h100 : i + 1 < 100
                · refine hG2 [(225, [1, 1, 1, 1, 1, 1, 1, 0, 0])] 100 205 _ _ _ _ (am_nf (by rw [a15]; exact am_lt h100 rfl) (And.intro (by rw [a15]; exact am_vin h100 rfl) ?_))
                  show G2 225 [some (.ref 0), some (.int (nI kind)), some (.int (nI f)), some (.int (nI snow)), some (.int (nI stones)), some (.int (nI p')), some (.int (nI b')), none, none] [] (am_ui I3 9 (I3 0 15).toNatClampNeg (nI p')) L
                  rw [a15, nI_clamp (by omega)]
                  refine mark _ (GF_tr g3 (GF_a (by omega))) ((am_ui_n (by omega)).trans a15) ((am_ui_n (by omega)).trans a20) ((am_ui_o (by omega)).trans a10) (fun j h1 h2 => ?_)
                  rw [am_ui_r]
                  by_cases e : j = i + 1
                  · rw [if_pos ⟨rfl, e⟩, e, hs1]
                  · rw [if_neg (fun z => e z.2), a9]; exact hst j (by omega) h2
                · refine hG2 [(225, [1, 1, 1, 1, 1, 1, 1, 0, 0])] 100 205 _ _ _ _ (am_nt (by rw [a15]; exact nI_nlt (show 100 ≤ i + 1 by omega) (by omega)) ?_)
                  exact mark I3 g3 a15 a20 a10 (fun j h1 h2 => by rw [a9]; exact hst j (by omega) h2)
              have ixe : (8 : Int32) * nI p + nI t = nI (8 * p + t) := by rw [show (8 : Int32) = nI 8 from rfl, pk_mul, nI_add]
              have hj : I2 7 ((8 : Int32) * nI p + nI t).toNatClampNeg = nI w := by rw [ixe, nI_clamp (by omega), hLW2 p t hpb.1 ht8, w1, nI_pred]
              refine am_nt (show ¬ nI t < 0 from nI_pos (by omega)) (And.intro (by show vp_in ((8 : Int32) * nI p + nI t) 64; rw [ixe]; exact am_vin (by omega) rfl) ?_)
              have hbit : f_h (nI snow) (I2 7 ((8 : Int32) * nI p + nI t).toNatClampNeg) = am_b (snow.testBit w = true) := by rw [hj]; exact f_h_nI snow (by omega)
              by_cases hsw : snow.testBit w = true
              · rw [if_pos hsw] at hnx
                refine am_f (show ¬ am_b (f_h (nI snow) (I2 7 ((8 : Int32) * nI p + nI t).toNatClampNeg) = 1) = 0 by rw [hbit, hsw]; simp [am_b1]) ?_
                show G2 195 [some (.ref 0), some (.int (nI kind)), some (.int (nI f)), some (.int (nI snow)), some (.int (nI stones)), some (.int (nI p)), some (.int (nI b ||| ((1 : Int32) <<< (I2 7 ((8 : Int32) * nI p + nI t).toNatClampNeg &&& 31)))), none, none] [] I2 L
                rw [hj, g_set_I b (by omega)]
                exact tail p (g_set b w) hnx
              · rw [if_neg hsw] at hnx
                refine am_t (show am_b (f_h (nI snow) (I2 7 ((8 : Int32) * nI p + nI t).toNatClampNeg) = 1) = 0 by rw [hbit]; rw [am_b0 hsw]; decide) ?_
                have hcl : nI b &&& (((1 : Int32) <<< (I2 7 ((8 : Int32) * nI p + nI t).toNatClampNeg &&& 31)) ^^^ (-1)) = nI (g_clr b w) := by rw [hj, g_clr_I b (by omega)]
                have hsb : f_h (nI stones) (nI t) = am_b (stones.testBit t = true) := f_h_nI stones (by omega)
                by_cases hst2 : stones.testBit t = true
                · refine am_f (show ¬ am_b (f_h (nI stones) (nI t) = 1) = 0 by rw [hsb, hst2]; simp [am_b1]) ?_
                  refine And.intro (rfl) (Exists.intro (G) (Exists.intro (kind) (Exists.intro (snow) (Exists.intro (stones) (Exists.intro (t) (Exists.intro (p) (Exists.intro (g_clr b w) (And.intro (hX.1) (And.intro (hRM2) (And.intro (hX.2.1) (And.intro (ht8) (And.intro (hpb.1) (And.intro (hX.2.2.1 t hst2) (And.intro (hst2) (And.intro (rfl) (And.intro (rfl) (And.intro (rfl) (And.intro (hcl) (And.intro (rfl) (?_))))))))))))))))))))
                  exact tail t _ hnx
                · have e : g_heed G kind snow stones t p (g_clr b w) = g_clr b w := by unfold g_heed; rw [if_neg hst2]
                  rw [e] at hnx
                  refine am_t (show am_b (f_h (nI stones) (nI t) = 1) = 0 by rw [hsb, am_b0 hst2]; decide) ?_
                  show G2 195 [some (.ref 0), some (.int (nI kind)), some (.int (nI f)), some (.int (nI snow)), some (.int (nI stones)), some (.int (nI t)), some (.int (nI b &&& (((1 : Int32) <<< (I2 7 ((8 : Int32) * nI p + nI t).toNatClampNeg &&& 31)) ^^^ (-1)))), none, none] [] I2 L
                  rw [hcl]
                  exact tail t _ hnx
    -- the start
    obtain ⟨m20, mall⟩ := hMS
    have ixe : (4096 : Int32) * nI f + 0 = nI (f * 4096 + 0) := by rw [show (4096 : Int32) = nI 4096 from rfl, show (0 : Int32) = nI 0 from rfl, pk_mul, nI_add, Nat.mul_comm]
    have hf8 := hX.2.2.2
    refine hG2 [] 31 0 _ _ _ _ (And.intro (am_vin (n := 0) (by decide) rfl) (And.intro (by show vp_in ((4096 : Int32) * nI f + 0) 32768; rw [ixe]; exact am_vin (by omega) rfl) ?_))
    show G2 51 [some (.ref 0), some (.int (nI kind)), some (.int (nI f)), some (.int (nI snow)), some (.int (nI stones)), some (.int (nI f)), some (.int 0), none, none] [] (am_ui (am_ui (am_ui (am_ui (am_ui I 0 20 (I 0 20 + 1)) 0 15 0) 9 (0 : Int32).toNatClampNeg (nI f)) 10 ((4096 : Int32) * nI f + 0).toNatClampNeg (am_ui (am_ui (am_ui I 0 20 (I 0 20 + 1)) 0 15 0) 9 (0 : Int32).toNatClampNeg (nI f) 0 20)) 0 16 (-1)) L
    rw [ixe, nI_clamp (by omega), m20, nI_1, am_ui_n (by omega), am_ui_n (by omega), am_ui_e, show (0 : Int32).toNatClampNeg = 0 from rfl]
    have := loop 32769 0 (am_ui (am_ui (am_ui (am_ui (am_ui I 0 20 (nI (c + 1))) 0 15 0) 9 0 (nI f)) 10 (f * 4096 + 0) (nI (c + 1))) 0 16 (-1)) (by omega) (fun j hj => by omega) (by simp [am_ui_r, nI_0]) (by
        rw [am_ui_e, if_neg]
        rintro ⟨_, z⟩
        simp [g_sn] at z) (by simp [am_ui_r]) (fun j h1 h2 => by
        rw [show j = 0 by omega, hS0]; simp [am_ui_r]) (fun s hs => by
        rw [am_ui_o (by omega), am_ui_r]
        by_cases e : s = f * 4096 + 0
        · rw [if_pos ⟨rfl, e⟩]
          exact ⟨⟨fun _ => ⟨0, Nat.le_refl _, by rw [hS0]; exact e.symm⟩, fun _ => rfl⟩, c + 1, Nat.le_refl _, rfl⟩
        · rw [if_neg (fun z => e z.2), am_ui_o (by omega), am_ui_o (by omega), am_ui_o (by omega)]
          obtain ⟨n, hn, e2⟩ := mall s hs
          refine ⟨⟨fun q => ?_, fun ⟨j, x1, x2⟩ => ?_⟩, n, by omega, e2⟩
          · rw [e2, nI_eq (by omega) (by omega)] at q; omega
          · rw [show j = 0 by omega, hS0] at x2; exact absurd x2.symm e) (GF_tr (GF_0 (by omega)) (GF_tr (GF_0 (by omega)) (GF_tr (GF_a (by omega)) (GF_tr (GF_a (by omega)) (GF_0 (by omega))))))
    rw [hS0] at this
    exact this
  · exact h.elim
