/-! THE CLASS, a journey from its start on -/
def g_vs (G : Nat → Nat) (S : Nat → Nat × Nat) (n s : Nat) : Bool := (List.range n).any (fun j => !decide ((S j).1 = G 43) && decide (s = (S j).1 * 4096 + (S j).2))
theorem g_vs_succ (G : Nat → Nat) (S : Nat → Nat × Nat) (n s : Nat) : g_vs G S (n + 1) s = (g_vs G S n s || (!decide ((S n).1 = G 43) && decide (s = (S n).1 * 4096 + (S n).2))) := by
  unfold g_vs
  rw [List.range_succ, List.any_append]
  simp
theorem g_end_3 {G : Nat → Nat} {S : Nat → Nat × Nat} {i : Nat} (h : g_end G S i = 3) : ¬ (S i).1 = G 43 ∧ g_sn S i (S i) = false ∧ ∃ t, g_tgt G (S i) = some t := by
  unfold g_end at h
  split at h
  · omega
  · rename_i h1
    split at h
    · omega
    · rename_i h2
      split at h
      · omega
      · rename_i h3
        refine ⟨h1, by simpa using h2, ?_⟩
        cases e : g_tgt G (S i) with
        | none => exact absurd e h3
        | some t => exact ⟨t, rfl⟩
theorem g_end_lt (G : Nat → Nat) (S : Nat → Nat × Nat) (i : Nat) : g_end G S i < 4 := by
  unfold g_end
  split
  · omega
  · split
    · omega
    · split <;> omega
theorem g_vs_sn {G : Nat → Nat} {S : Nat → Nat × Nat} {i : Nat} (hb : ∀ j, j ≤ i → (S j).2 < 4096) (h : ∀ j, j < i → g_end G S j = 3) : g_vs G S i ((S i).1 * 4096 + (S i).2) = g_sn S i (S i) := by
  unfold g_vs g_sn
  rw [Bool.eq_iff_iff]
  simp only [List.any_eq_true, List.mem_range, Bool.and_eq_true, Bool.not_eq_true', decide_eq_false_iff_not, decide_eq_true_eq]
  constructor
  · rintro ⟨j, hj, _, e⟩
    have := hb j (by omega)
    have := hb i (Nat.le_refl i)
    exact ⟨j, hj, Prod.ext (by omega) (by omega)⟩
  · rintro ⟨j, hj, e⟩
    exact ⟨j, hj, (g_end_3 (h j hj)).1, by rw [e]⟩
/-- what a journey goes on in -/
def JX (G : Nat → Nat) (kind stones f : Nat) : Prop := WG G ∧ kind < 4 ∧ (∀ q, stones.testBit q = true → (G 26).testBit q = true) ∧ f < 8
/-- the cells of Journey and Seen are at step i -/
def JS (I : am_I) (L : am_J) (G : Nat → Nat) (kind snow stones f i : Nat) : Prop :=
  I 21 1 = nI kind ∧ I 21 2 = nI snow ∧ I 21 3 = nI stones ∧ I 21 4 = nI (g_S G kind snow stones f i).1 ∧ I 21 6 = nI i ∧ I 21 7 = nI (g_end G (g_S G kind snow stones f) i) ∧ I 21 8 = nI (g_S G kind snow stones f i).2 ∧
  NB L 21 9 G (g_S G kind snow stones f i).2 ∧ (∀ t, g_tgt G (g_S G kind snow stones f i) = some t → g_end G (g_S G kind snow stones f) i = 3 → I 21 5 = nI t) ∧ SC I L (g_vs G (g_S G kind snow stones f) (i + 1)) ∧ ∀ j, j < i → g_end G (g_S G kind snow stones f) j = 3
theorem JS_look {I I2 : am_I} {L L2 : am_J} {G : Nat → Nat} {kind snow stones f i p b e : Nat} (hX : JX G kind stones f) (hprev : ∀ j, j < i → g_end G (g_S G kind snow stones f) j = 3) (hs : g_S G kind snow stones f i = (p, b))
    (f1 : I 21 1 = nI kind) (f2 : I 21 2 = nI snow) (f3 : I 21 3 = nI stones) (f4 : I 21 4 = nI p) (f6 : I 21 6 = nI i) (f8 : I 21 8 = nI b) (hn : NB L 21 9 G b)
    (he : e = (if p = G 43 then 0 else if g_vs G (g_S G kind snow stones f) i (p * 4096 + b) = true then 2 else if g_tgt G (p, b) = none then 1 else 3)) (e7 : I2 21 7 = nI e) (e5 : ∀ t, g_tgt G (p, b) = some t → e = 3 → I2 21 5 = nI t)
    (esc : SC I2 L2 (fun s => g_vs G (g_S G kind snow stones f) i s || (!decide (p = G 43) && decide (s = p * 4096 + b)))) (ek : ∀ k, k ≠ 5 → k ≠ 7 → I2 21 k = I 21 k) (el : L2 21 = L 21) : JS I2 L2 G kind snow stones f i := by
  have hlt := g_S_lt (snow := snow) (kind := kind) hX.1 hX.2.2.1 hX.2.2.2
  have e1 : e = g_end G (g_S G kind snow stones f) i := by
    have h1 := g_vs_sn (G := G) (S := g_S G kind snow stones f) (i := i) (fun j _ => (hlt j).2) hprev
    rw [hs] at h1
    unfold g_end
    rw [he, hs, ← h1]
  unfold JS
  rw [hs]
  refine ⟨(ek 1 (by omega) (by omega)).trans f1, (ek 2 (by omega) (by omega)).trans f2, (ek 3 (by omega) (by omega)).trans f3, (ek 4 (by omega) (by omega)).trans f4, (ek 6 (by omega) (by omega)).trans f6, by rw [e7, e1], (ek 8 (by omega) (by omega)).trans f8, fun x y hx hy => by rw [el]; exact hn x y hx hy, fun t ht h3 => e5 t ht (by rw [e1]; exact h3), SC_congr esc (fun s _ => ?_), hprev⟩
  rw [g_vs_succ, hs]
theorem JS_fr {I I2 : am_I} {L L2 : am_J} {G : Nat → Nat} {kind snow stones f i : Nat} (h : JS I L G kind snow stones f i) (h1 : I2 21 = I 21) (h2 : I2 22 2 = I 22 2) (h3 : I2 24 = I 24) (h4 : L2 21 = L 21) (h5 : L2 23 = L 23) : JS I2 L2 G kind snow stones f i := by
  unfold JS at *
  rw [h1]
  obtain ⟨a1, a2, a3, a4, a5, a6, a7, a8, a9, a10, a11⟩ := h
  exact ⟨a1, a2, a3, a4, a5, a6, a7, fun x y hx hy => by rw [h4]; exact a8 x y hx hy, a9, SC_fr a10 h2 h3 h5, a11⟩
def T_JN_begin : am_Sp := fun vs I L post => match vs with
  | [.ref o, .ref r, .int x1, .int x2, .int x3, .int x4] => o = 21 ∧ r = 1 ∧ ∃ G kind snow stones f V, JX G kind stones f ∧ RC I L 1 G ∧ x1 = nI kind ∧ x2 = nI f ∧ x3 = nI snow ∧ x4 = nI stones ∧ SC I L V ∧ ∀ (I2 : am_I) (L2 : am_J), JS I2 L2 G kind snow stones f 0 → FJ I I2 L L2 → post none I2 L2
  | _ => False
def sp_JN_begin : Nat → am_Sp := fun i => match i with
  | 44 => T_SN_forget
  | 47 => T_JN_look
  | _ => am_no
set_option maxRecDepth 100000 in
theorem ok_JN_begin : am_Ok am_SX sp_JN_begin false k_JN_begin 6 T_JN_begin := by
  intro vs I L post h
  unfold T_JN_begin at h
  split at h
  · rename_i o r x1 x2 x3 x4
    obtain ⟨rfl, rfl, G, kind, snow, stones, f, V, hX, hRC, rfl, rfl, rfl, rfl, hs, h⟩ := h
    refine ⟨Nat.le_of_ble_eq_true rfl, fun G2 hG2 => ?_⟩
    obtain ⟨r5, r6, r7, r8, r9, rw2, rj, rs, rn, -⟩ := id hRC
    obtain ⟨J1, hJ1⟩ : ∃ J1 : am_I, J1 = am_ui (am_ui (am_ui (am_ui (am_ui (am_ui I 21 1 (nI kind)) 21 2 (nI snow)) 21 3 (nI stones)) 21 4 (nI f)) 21 6 0) 21 8 0 := ⟨_, rfl⟩
    obtain ⟨K1, hK1⟩ : ∃ K1 : am_J, K1 = am_uj L 21 9 (L 1 10) := ⟨_, rfl⟩
    have j1 : J1 21 1 = nI kind := by rw [hJ1]; simp [am_ui_r]
    have j2 : J1 21 2 = nI snow := by rw [hJ1]; simp [am_ui_r]
    have j3 : J1 21 3 = nI stones := by rw [hJ1]; simp [am_ui_r]
    have j4 : J1 21 4 = nI f := by rw [hJ1]; simp [am_ui_r]
    have j6 : J1 21 6 = nI 0 := by rw [hJ1]; simp [am_ui_r, nI_0]
    have j8 : J1 21 8 = nI 0 := by rw [hJ1]; simp [am_ui_r, nI_0]
    have jo : ∀ a, a ≠ 21 → J1 a = I a := fun a ha => by rw [hJ1]; simp [am_ui_o ha]
    have k9 : K1 21 9 = L 1 10 := by rw [hK1, am_uj_e]
    have ko : ∀ a, a ≠ 21 → K1 a = L a := fun a ha => by rw [hK1]; exact am_uj_o ha
    refine hG2 [] 22 0 _ _ _ _ ?_
    show G2 40 [some (.ref 21), some (.ref 1), some (.int (nI kind)), some (.int (nI f)), some (.int (nI snow)), some (.int (nI stones))] [] (am_ui (am_ui (am_ui (am_ui (am_ui (am_ui I 21 1 (nI kind)) 21 2 (nI snow)) 21 3 (nI stones)) 21 4 (nI f)) 21 6 0) 21 8 0) (am_uj L 21 9 (L 1 10))
    rw [← hJ1, ← hK1]
    refine hG2 [] 50 40 _ _ _ _ (And.intro (rfl) (Exists.intro (V) (And.intro (SC_fr hs (by rw [jo 22 (by omega)]) (jo 24 (by omega)) (ko 23 (by omega))) (fun I2 L2 hs2 hI2 hL2 => ?_))))
    have e21 : I2 21 = J1 21 := hI2 21 (by omega) (by omega)
    have hRC2 : RC I2 L2 1 G := RC_fr hRC (fun a h1 h2 => (hI2 a (by omega) (by omega)).trans (jo a (by omega))) ((hL2 1 (by omega)).trans (ko 1 (by omega)))
    have hn : NB L2 21 9 G 0 := fun x y hx hy => by rw [hL2 21 (by omega), k9]; exact rn x y hx hy
    refine And.intro (rfl) (And.intro (rfl) (Exists.intro (G) (Exists.intro (f) (Exists.intro (0) (Exists.intro (fun _ => false) (And.intro (hX.1) (And.intro (hRC2) (And.intro (hX.2.2.2) (And.intro (by omega) (And.intro (by rw [e21]; exact j4) (And.intro (by rw [e21]; exact j8) (And.intro (hn) (And.intro (hs2) (fun e I3 L3 he e7 e5 esc ek e8 e9 => ?_))))))))))))))
    refine h I3 L3 (JS_look hX (fun j hj => by omega) rfl (by rw [e21]; exact j1) (by rw [e21]; exact j2) (by rw [e21]; exact j3) (by rw [e21]; exact j4) (by rw [e21]; exact j6) (by rw [e21]; exact j8) hn he e7 e5 esc ek (e9 21 (by omega))) ⟨fun a h1 h2 h3 => (e8 a h1 h2 h3).trans ((hI2 a h2 h3).trans (jo a h1)), fun a h1 h2 => (e9 a h2).trans ((hL2 a h2).trans (ko a h1))⟩
  · exact h.elim
theorem f_wb_RC {I : am_I} {L : am_J} {r : Nat} {G : Nat → Nat} (h : RC I L r G) {a b : Nat} (ha : a < 8) (hb : b < 8) : f_wb I r (nI a) (nI b) = nI (g_wy G a b) - 1 := by
  unfold f_wb
  rw [if_pos ⟨⟨nI_pos' (by omega), am_lt ha rfl⟩, ⟨nI_pos' (by omega), am_lt hb rfl⟩⟩, show (8 : Int32) = nI 8 from rfl, pk_mul, nI_add, nI_clamp (by omega), Nat.mul_comm a 8, h.2.2.2.2.2.2.1 a b ha hb]
def T_JN_goOn : am_Sp := fun vs I L post => match vs with
  | [.ref o, .ref r, .int x] => o = 21 ∧ r = 1 ∧ ∃ G kind snow stones f i n, JX G kind stones f ∧ RC I L 1 G ∧ x = nI n ∧ i + n < 2147483647 ∧ JS I L G kind snow stones f i ∧ ∀ (i2 : Nat) (I2 : am_I) (L2 : am_J), i ≤ i2 → i2 ≤ i + n → (i2 = i + n ∨ ¬ g_end G (g_S G kind snow stones f) i2 = 3) → JS I2 L2 G kind snow stones f i2 → FJ I I2 L L2 → post none I2 L2
  | _ => False
def sp_JN_goOn : Nat → am_Sp := fun i => match i with
  | 47 => T_JN_look
  | 57 => T_RD_wayBetween
  | 61 => T_RP_bitOf
  | 68 => T_JN_believe
  | 72 => T_JN_heed
  | _ => am_no
set_option maxRecDepth 100000 in
set_option maxHeartbeats 2000000 in
theorem ok_JN_goOn : am_Ok am_SX sp_JN_goOn false k_JN_goOn 6 T_JN_goOn := by
  intro vs I L post h
  unfold T_JN_goOn at h
  split at h
  · rename_i o r x
    obtain ⟨rfl, rfl, G, kind, snow, stones, f, i, n, hX, hRC, rfl, hin, hJ, h⟩ := h
    refine ⟨Nat.le_of_ble_eq_true rfl, fun G2 hG2 => ?_⟩
    have loop : ∀ d k (I1 : am_I) (L1 : am_J), n - k = d → k ≤ n → JS I1 L1 G kind snow stones f (i + k) → FJ I I1 L L1 → G2 2 [some (.ref 21), some (.ref 1), some (.int (nI n)), some (.int (nI k)), none, none] [] I1 L1 := by
      intro d
      induction d with
      | zero =>
        intro k I1 L1 hd hk hj hf
        have hkn : k = n := by omega
        subst hkn
        exact hG2 [(2, [])] 50 2 _ _ _ _ (am_nt (nI_nlt (Nat.le_refl k) (by omega)) (h (i + k) I1 L1 (by omega) (by omega) (Or.inl rfl) hj hf))
      | succ d ih =>
        intro k I1 L1 hd hk hj hf
        have hRC1 := FJ_RC hf (by omega) hRC
        have hlt := g_S_lt (snow := snow) (kind := kind) hX.1 hX.2.2.1 hX.2.2.2 (i + k)
        have h12 := hX.1.1
        obtain ⟨j1, j2, j3, j4, j6, j7, j8, jn, j5, jsc, jp⟩ := hj
        by_cases he : g_end G (g_S G kind snow stones f) (i + k) = 3
        · obtain ⟨c1, c2, t, ht⟩ := g_end_3 he
          obtain ⟨p, b, hs⟩ : ∃ p b, g_S G kind snow stones f (i + k) = (p, b) := ⟨_, _, rfl⟩
          have hs1 : g_S G kind snow stones f (i + (k + 1)) = g_nx G kind snow stones (p, b) := by rw [← hs]; rfl
          have j5 := j5 t ht he
          rw [hs] at hlt c1 ht j4 j8 jn
          dsimp only at hlt c1 j4 j8 jn
          obtain ⟨ht8, hE⟩ := g_to_spec ht
          obtain ⟨w, hw1, hw2, hw3, hw4⟩ := g_E_wy hE
          dsimp only at hw1
          have hprev : ∀ j, j < i + (k + 1) → g_end G (g_S G kind snow stones f) j = 3 := fun j hj => by
            rcases Nat.lt_or_ge j (i + k) with z | z
            · exact jp j z
            · rw [show j = i + k by omega]; exact he
          have hwb : f_wb I1 1 (I1 21 4) (I1 21 5) = nI w := by rw [j4, j5, f_wb_RC hRC1 hlt.1 ht8, hw1, nI_pred]
          refine hG2 [(2, [1, 1, 1, 1, 0, 0])] 20 2 _ _ _ _ (am_nf (nI_lt (by omega) (by omega)) (am_nf (by rw [j7, he]; rfl) (And.intro (Or.inl rfl) ?_)))
          show G2 39 [some (.ref 21), some (.ref 1), some (.int (nI n)), some (.int (nI k)), some (.int (f_wb I1 1 (I1 21 4) (I1 21 5))), none] [] (am_ui I1 21 6 (I1 21 6 + 1)) L1
          rw [hwb, j6, nI_1]
          obtain ⟨J1, hJ1⟩ : ∃ J1 : am_I, J1 = am_ui I1 21 6 (nI (i + k + 1)) := ⟨_, rfl⟩
          have jo : ∀ a, a ≠ 21 → J1 a = I1 a := fun a ha => by rw [hJ1]; exact am_ui_o ha
          have jk : ∀ q, q ≠ 6 → J1 21 q = I1 21 q := fun q hq => by rw [hJ1]; exact am_ui_n (fun z => hq z.2)
          have jk6 : J1 21 6 = nI (i + (k + 1)) := by rw [hJ1, am_ui_e]; rfl
          rw [← hJ1]
          have hRC3 : RC J1 L1 1 G := RC_fr hRC1 (fun a h1 h2 => jo a (by omega)) rfl
          have hsc3 : SC J1 L1 (g_vs G (g_S G kind snow stones f) (i + (k + 1))) := SC_fr jsc (by rw [jo 22 (by omega)]) (jo 24 (by omega)) rfl
          have hfj : FJ I J1 L L1 := FJ_tr hf ⟨fun a h1 _ _ => jo a h1, fun _ _ _ => rfl⟩
          have hbit : f_bit (J1 21 2) (nI w) = am_b (snow.testBit w = true) := by rw [jk 2 (by omega), j2, f_bit_nI _ (by omega)]
          have hnx : g_nx G kind snow stones (p, b) = if snow.testBit w = true then (p, g_set b w) else (t, g_heed G kind snow stones t p (g_clr b w)) := by
            unfold g_nx
            rw [ht]
            dsimp only
            rw [hw1]
            rfl
          by_cases hsn : snow.testBit w = true
          · -- the way is shut
            rw [if_pos hsn] at hnx
            refine hG2 [(2, [1, 1, 1, 1, 0, 0])] 50 39 _ _ _ _ (am_nf (by rw [hbit, am_b1 hsn]) (And.intro (rfl) (And.intro (rfl) (Exists.intro (G) (Exists.intro (b) (Exists.intro (w) (And.intro (hX.1) (And.intro (hRC3) (And.intro (hw2) (And.intro (rfl) (And.intro ((jk 8 (by omega)).trans j8) (And.intro (jn) (fun b2 L2 hb2 hn2 hL2 => ?_)))))))))))))
            have hb2 : b2 = g_set b w := by rw [hb2, if_neg (by decide), if_pos rfl]
            subst hb2
            refine And.intro (rfl) (And.intro (rfl) (Exists.intro (G) (Exists.intro (p) (Exists.intro (g_set b w) (Exists.intro (g_vs G (g_S G kind snow stones f) (i + (k + 1))) (And.intro (hX.1) (And.intro (RC_fr hRC3 (fun a h1 h2 => am_ui_o (by omega)) (hL2 1 (by omega))) (And.intro (hlt.1) (And.intro (g_set_lt hlt.2 (by omega)) (And.intro ((am_ui_n (by omega)).trans ((jk 4 (by omega)).trans j4)) (And.intro (am_ui_e) (And.intro (hn2) (And.intro (SC_fr hsc3 (am_ui_n (by omega)) (am_ui_o (by omega)) (hL2 23 (by omega))) (fun e I3 L3 hee e7 e5 esc ek e8 e9 => ?_))))))))))))))
            show G2 2 [some (.ref 21), some (.ref 1), some (.int (nI n)), some (.int (nI k + 1)), none, none] [] I3 L3
            rw [nI_1]
            refine ih (k + 1) I3 L3 (by omega) (by omega) (JS_look hX hprev (hs1.trans hnx) ((am_ui_n (by omega)).trans ((jk 1 (by omega)).trans j1)) ((am_ui_n (by omega)).trans ((jk 2 (by omega)).trans j2)) ((am_ui_n (by omega)).trans ((jk 3 (by omega)).trans j3)) ((am_ui_n (by omega)).trans ((jk 4 (by omega)).trans j4)) ((am_ui_n (by omega)).trans jk6) am_ui_e hn2 hee e7 e5 esc ek (e9 21 (by omega))) (FJ_tr hfj ⟨fun a h1 h2 h3 => (e8 a h1 h2 h3).trans (am_ui_o h1), fun a h1 h2 => (e9 a h2).trans (hL2 a h1)⟩)
          · -- it is open
            rw [if_neg hsn] at hnx
            refine hG2 [(2, [1, 1, 1, 1, 0, 0])] 50 39 _ _ _ _ (am_nt (by rw [hbit, am_b0 hsn]; decide) ?_)
            have jt : J1 21 5 = nI t := (jk 5 (by omega)).trans j5
            refine And.intro (rfl) (And.intro (rfl) (Exists.intro (G) (Exists.intro (b) (Exists.intro (w) (And.intro (hX.1) (And.intro (RC_fr hRC3 (fun a h1 h2 => am_ui_o (by omega)) rfl) (And.intro (hw2) (And.intro (rfl) (And.intro ((am_ui_n (by omega)).trans ((jk 8 (by omega)).trans j8)) (And.intro (jn) (fun b2 L2 hb2 hn2 hL2 => ?_)))))))))))
            have hb2 : b2 = g_clr b w := by rw [hb2, if_pos rfl]
            subst hb2
            have hJ2o : ∀ a, a ≠ 21 → am_ui (am_ui J1 21 4 (J1 21 5)) 21 8 (nI (g_clr b w)) a = J1 a := fun a ha => (am_ui_o ha).trans (am_ui_o ha)
            have hJ2k : ∀ q, q ≠ 4 → q ≠ 8 → am_ui (am_ui J1 21 4 (J1 21 5)) 21 8 (nI (g_clr b w)) 21 q = J1 21 q := fun q h1 h2 => (am_ui_n (fun z => h2 z.2)).trans (am_ui_n (fun z => h1 z.2))
            refine And.intro (rfl) (And.intro (rfl) (Exists.intro (G) (Exists.intro (kind) (Exists.intro (snow) (Exists.intro (stones) (Exists.intro (t) (Exists.intro (p) (Exists.intro (g_clr b w) (And.intro (hX.1) (And.intro (RC_fr hRC3 (fun a h1 h2 => hJ2o a (by omega)) (hL2 1 (by omega))) (And.intro (hX.2.1) (And.intro (hX.2.2.1) (And.intro (ht8) (And.intro (hlt.1) (And.intro ((jk 4 (by omega)).trans j4) (And.intro ((hJ2k 1 (by omega) (by omega)).trans ((jk 1 (by omega)).trans j1)) (And.intro ((hJ2k 2 (by omega) (by omega)).trans ((jk 2 (by omega)).trans j2)) (And.intro ((hJ2k 3 (by omega) (by omega)).trans ((jk 3 (by omega)).trans j3)) (And.intro ((am_ui_n (by omega)).trans (am_ui_e.trans jt)) (And.intro (am_ui_e) (And.intro (hn2) (fun L4 hn4 hL4 => ?_))))))))))))))))))))))
            refine And.intro (rfl) (And.intro (rfl) (Exists.intro (G) (Exists.intro (t) (Exists.intro (g_heed G kind snow stones t p (g_clr b w)) (Exists.intro (g_vs G (g_S G kind snow stones f) (i + (k + 1))) (And.intro (hX.1) (And.intro (RC_fr hRC3 (fun a h1 h2 => (am_ui_o (by omega)).trans (hJ2o a (by omega))) ((hL4 1 (by omega)).trans (hL2 1 (by omega)))) (And.intro (ht8) (And.intro (g_heed_lt hX.1 hX.2.2.1 ht8 (g_clr_lt hlt.2 (by omega))) (And.intro ((am_ui_n (by omega)).trans ((am_ui_n (by omega)).trans (am_ui_e.trans jt))) (And.intro (am_ui_e) (And.intro (hn4) (And.intro (SC_fr hsc3 ((am_ui_n (by omega)).trans (by rw [hJ2o 22 (by omega)])) ((am_ui_o (by omega)).trans (hJ2o 24 (by omega))) ((hL4 23 (by omega)).trans (hL2 23 (by omega)))) (fun e I3 L3 hee e7 e5 esc ek e8 e9 => ?_))))))))))))))
            show G2 2 [some (.ref 21), some (.ref 1), some (.int (nI n)), some (.int (nI k + 1)), none, none] [] I3 L3
            rw [nI_1]
            refine ih (k + 1) I3 L3 (by omega) (by omega) (JS_look hX hprev (hs1.trans hnx) ((am_ui_n (by omega)).trans ((hJ2k 1 (by omega) (by omega)).trans ((jk 1 (by omega)).trans j1))) ((am_ui_n (by omega)).trans ((hJ2k 2 (by omega) (by omega)).trans ((jk 2 (by omega)).trans j2))) ((am_ui_n (by omega)).trans ((hJ2k 3 (by omega) (by omega)).trans ((jk 3 (by omega)).trans j3))) ((am_ui_n (by omega)).trans ((am_ui_n (by omega)).trans (am_ui_e.trans jt))) ((am_ui_n (by omega)).trans ((hJ2k 6 (by omega) (by omega)).trans jk6)) am_ui_e hn4 hee e7 e5 esc ek (e9 21 (by omega))) (FJ_tr hfj ⟨fun a h1 h2 h3 => (e8 a h1 h2 h3).trans ((am_ui_o h1).trans (hJ2o a h1)), fun a h1 h2 => (e9 a h2).trans ((hL4 a h1).trans (hL2 a h1))⟩)
        · have h4 := g_end_lt G (g_S G kind snow stones f) (i + k)
          refine hG2 [(2, [])] 50 2 _ _ _ _ (am_nf (nI_lt (by omega) (by omega)) (am_nt (by rw [j7, show (3 : Int32) = nI 3 from rfl, nI_eq (by omega) (by omega)]; exact he) ?_))
          exact h (i + k) I1 L1 (by omega) (by omega) (Or.inr he) ⟨j1, j2, j3, j4, j6, j7, j8, jn, j5, jsc, jp⟩ hf
    refine hG2 [(2, [])] 50 0 _ _ _ _ ?_
    exact loop n 0 I L (by omega) (by omega) hJ FJ_rfl
  · exact h.elim
