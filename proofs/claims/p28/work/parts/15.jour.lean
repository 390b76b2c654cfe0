/-! THE CLASS, journeys -/
theorem g_R_congr {E E' : Nat → Nat → Bool} (h : Nat) (e : ∀ p q, p < 8 → q < 8 → E p q = E' p q) : ∀ k q, q < 8 → g_R E h k q = g_R E' h k q := by
  intro k
  induction k with
  | zero => intro q _; rfl
  | succ k ih =>
    intro q hq
    show (g_R E h k q || (List.range 8).any (fun p => E p q && g_R E h k p)) = (g_R E' h k q || (List.range 8).any (fun p => E' p q && g_R E' h k p))
    rw [ih q hq]
    congr 1
    rw [Bool.eq_iff_iff]
    simp only [List.any_eq_true, List.mem_range, Bool.and_eq_true]
    constructor
    · rintro ⟨p, a, b, c⟩; exact ⟨p, a, by rw [← e p q a hq]; exact b, by rw [← ih p a]; exact c⟩
    · rintro ⟨p, a, b, c⟩; exact ⟨p, a, by rw [e p q a hq]; exact b, by rw [ih p a]; exact c⟩
theorem g_lk_congr {P Q : Nat → Bool} (e : ∀ k, P k = Q k) : ∀ n k, g_lk P n k = g_lk Q n k := by
  intro n
  induction n with
  | zero => intro k; rfl
  | succ n ih => intro k; simp only [g_lk, e k, ih (k + 1)]
theorem g_d_congr {E E' : Nat → Nat → Bool} (h : Nat) (e : ∀ p q, p < 8 → q < 8 → E p q = E' p q) {q : Nat} (hq : q < 8) : g_d E h q = g_d E' h q := g_lk_congr (fun k => g_R_congr h e k q hq) 8 0
theorem g_ch_congr {d d' : Nat → Nat} {E E' : Nat → Bool} : ∀ n, (∀ q, q < n → d q = d' q ∧ E q = E' q) → g_ch d E n = g_ch d' E' n := by
  intro n
  induction n with
  | zero => intro _; rfl
  | succ n ih =>
    intro h
    have e := ih (fun q hq => h q (by omega))
    simp only [g_ch, e, (h n (by omega)).1, (h n (by omega)).2]
    cases hc : g_ch d' E' n with
    | none => rfl
    | some b =>
      have hb : b < n := by
        rcases g_ch_spec d' E' n with ⟨z, _⟩ | ⟨c, z1, z2, _⟩
        · rw [hc] at z; cases z
        · rw [hc] at z1; cases z1; exact z2
      simp only [(h b (by omega)).1]
theorem g_to_congr {E E' : Nat → Nat → Bool} {h a : Nat} (e : ∀ p q, p < 8 → q < 8 → E p q = E' p q) (ha : a < 8) : g_to E h a = g_to E' h a := g_ch_congr 8 (fun q hq => ⟨g_d_congr h e hq, e a q ha hq⟩)
/-- the net of what is believed open -/
def NB (L : am_J) (o k : Nat) (G : Nat → Nat) (b : Nat) : Prop := ∀ p q, p < 8 → q < 8 → bl (L o k) (8 * p + q) = g_E G b p q
def FJ (I I2 : am_I) (L L2 : am_J) : Prop := (∀ a, a ≠ 21 → a ≠ 22 → a ≠ 24 → I2 a = I a) ∧ (∀ a, a ≠ 21 → a ≠ 23 → L2 a = L a)
theorem FJ_rfl {I : am_I} {L : am_J} : FJ I I L L := ⟨fun _ _ _ _ => rfl, fun _ _ _ => rfl⟩
theorem FJ_tr {I I2 I3 : am_I} {L L2 L3 : am_J} (h1 : FJ I I2 L L2) (h2 : FJ I2 I3 L2 L3) : FJ I I3 L L3 := ⟨fun a x y z => (h2.1 a x y z).trans (h1.1 a x y z), fun a x y => (h2.2 a x y).trans (h1.2 a x y)⟩
theorem FJ_RC {I I2 : am_I} {L L2 : am_J} (h : FJ I I2 L L2) {r : Nat} {G : Nat → Nat} (hr : r + 5 < 21) (hc : RC I L r G) : RC I2 L2 r G := RC_fr hc (fun a _ _ => h.1 a (by omega) (by omega) (by omega)) (h.2 r (by omega) (by omega))
theorem am_ui_id {I : am_I} {o k : Nat} {x : Int32} (h : I o k = x) : am_ui I o k x = I := by
  funext a b
  rw [am_ui_r]
  split
  · rename_i e; rw [e.1, e.2, h]
  · rfl
theorem am_ui_n {I : am_I} {o k a b : Nat} {x : Int32} (h : ¬ (a = o ∧ b = k)) : am_ui I o k x a b = I a b := by rw [am_ui_r, if_neg h]
theorem am_ui_e {I : am_I} {o k : Nat} {x : Int32} : am_ui I o k x o k = x := by rw [am_ui_r, if_pos ⟨rfl, rfl⟩]
theorem am_uj_n {I : am_J} {o k a b : Nat} {x : Int64} (h : ¬ (a = o ∧ b = k)) : am_uj I o k x a b = I a b := by rw [am_uj_r, if_neg h]
theorem am_uj_e {I : am_J} {o k : Nat} {x : Int64} : am_uj I o k x o k = x := by rw [am_uj_r, if_pos ⟨rfl, rfl⟩]
theorem nI_le0 (k : Nat) (h : k < 2 ^ 31) : (0 : Int32) ≤ nI k := nI_pos' h
def T_JN_believe : am_Sp := fun vs I L post => match vs with
  | [.ref o, .ref r, .int w, .int x] => o = 21 ∧ r = 1 ∧ ∃ G b k, WG G ∧ RC I L 1 G ∧ k < G 0 ∧ w = nI k ∧ I 21 8 = nI b ∧ NB L 21 9 G b ∧ ∀ (b2 : Nat) (L2 : am_J), b2 = (if x = 1 then g_clr b k else if x = 0 then g_set b k else b) → NB L2 21 9 G b2 → (∀ a, a ≠ 21 → L2 a = L a) → post none (am_ui I 21 8 (nI b2)) L2
  | _ => False
def sp_JN_believe : Nat → am_Sp := fun i => match i with
  | 92 => T_RD_pairOf
  | _ => am_no
set_option maxRecDepth 100000 in
theorem ok_JN_believe : am_Ok am_SX sp_JN_believe false k_JN_believe 6 T_JN_believe := by
  intro vs I L post h
  unfold T_JN_believe at h
  split at h
  · rename_i o r w x
    obtain ⟨rfl, rfl, G, b, k, hG, hRC, hk, rfl, hb, hn, h⟩ := h
    refine ⟨Nat.le_of_ble_eq_true rfl, fun G2 hG2 => ?_⟩
    have h12 := hG.1
    have hends := hG.2.1 k hk
    obtain ⟨r5, -, -, -, -, rw2, -, -, -, -⟩ := id hRC
    have hw := rw2 k hk
    have hpre : 0 ≤ nI k ∧ nI k < I 1 5 := ⟨nI_pos' (by omega), by rw [r5]; exact nI_lt hk (by omega)⟩
    have ek : (nI k).toNatClampNeg = k := nI_clamp (by omega)
    have hpair : ∀ p q, p < 8 → q < 8 → bl (f_pair (I 2 k) (I 3 k)) (8 * p + q) = g_j G p q k := fun p q hp hq => by
      rw [show I 2 k = nI (G (1 + k)) from hw.1, show I 3 k = nI (G (13 + k)) from hw.2, f_pair_bl (by omega) (by omega) hp hq]
      unfold g_j
      rw [Bool.eq_iff_iff]
      simp only [Bool.or_eq_true, Bool.and_eq_true, decide_eq_true_eq]
      omega
    refine hG2 [] 3 0 _ _ _ _ (And.intro (Or.inl rfl) (And.intro (fun _ => am_vin (by omega) rfl) ?_))
    rw [if_pos hpre, ek]
    show G2 5 [some (.ref 21), some (.ref 1), some (.int (nI k)), some (.int x), none, none] [.long (f_pair (I 2 k) (I 3 k))] I L
    by_cases h1 : x = 1
    · refine hG2 [] 50 5 _ _ _ _ (am_nf h1 ?_)
      show post none (am_ui I 21 8 (I 21 8 &&& (((1 : Int32) <<< (nI k &&& 31)) ^^^ (-1)))) (am_uj L 21 9 (L 21 9 ||| f_pair (I 2 k) (I 3 k)))
      rw [hb, g_clr_I b (by omega)]
      refine h _ _ (by rw [if_pos h1]) (fun p q hp hq => ?_) (fun a ha => am_uj_o ha)
      rw [am_uj_e, bl_or, hn p q hp hq, hpair p q hp hq, g_E_clr hG hk]
    · by_cases h0 : x = 0
      · refine hG2 [] 50 5 _ _ _ _ (am_nt h1 (am_nf h0 ?_))
        show post none (am_ui I 21 8 (I 21 8 ||| ((1 : Int32) <<< (nI k &&& 31)))) (am_uj L 21 9 (L 21 9 &&& (f_pair (I 2 k) (I 3 k) ^^^ (-1))))
        rw [hb, g_set_I b (by omega)]
        refine h _ _ (by rw [if_neg h1, if_pos h0]) (fun p q hp hq => ?_) (fun a ha => am_uj_o ha)
        rw [am_uj_e, bl_and, hn p q hp hq, bl_not (by omega), hpair p q hp hq, g_E_set hG hk]
      · refine hG2 [] 50 5 _ _ _ _ (am_nt h1 (am_nt h0 ?_))
        have e := h b L (by rw [if_neg h1, if_neg h0]) hn (fun _ _ => rfl)
        rw [am_ui_id hb] at e
        exact e
  · exact h.elim
def T_JN_heed : am_Sp := fun vs I L post => match vs with
  | [.ref o, .ref r, .int x] => o = 21 ∧ r = 1 ∧ ∃ G kind snow stones p f b, WG G ∧ RC I L 1 G ∧ kind < 4 ∧ (∀ q, stones.testBit q = true → (G 26).testBit q = true) ∧ p < 8 ∧ f < 8 ∧ x = nI f ∧ I 21 1 = nI kind ∧ I 21 2 = nI snow ∧ I 21 3 = nI stones ∧ I 21 4 = nI p ∧ I 21 8 = nI b ∧ NB L 21 9 G b ∧ ∀ L2 : am_J, NB L2 21 9 G (g_heed G kind snow stones p f b) → (∀ a, a ≠ 21 → L2 a = L a) → post none (am_ui I 21 8 (nI (g_heed G kind snow stones p f b))) L2
  | _ => False
def sp_JN_heed : Nat → am_Sp := fun i => match i with
  | 61 => T_RP_bitOf
  | 68 => T_JN_believe
  | 76 => T_RD_isSide
  | 80 => T_RD_saysOpen
  | 84 => T_RD_aboutOf
  | 88 => T_KD_takes
  | _ => am_no
set_option maxRecDepth 100000 in
theorem ok_JN_heed : am_Ok am_SX sp_JN_heed false k_JN_heed 5 T_JN_heed := by
  intro vs I L post h
  unfold T_JN_heed at h
  split at h
  · rename_i o r x
    obtain ⟨rfl, rfl, G, kind, snow, stones, p, f, b, hG, hRC, hkd, hsub, hp, hf, rfl, f1, f2, f3, f4, hb, hn, h⟩ := h
    refine ⟨Nat.le_of_ble_eq_true rfl, fun G2 hG2 => ?_⟩
    obtain ⟨r5, r6, r7, r8, r9, rw2, rj, rs, -, -⟩ := id hRC
    have ep : (nI p).toNatClampNeg = p := nI_clamp (by omega)
    have hplace : 0 ≤ nI p ∧ nI p < 8 := ⟨nI_pos' (by omega), am_lt hp rfl⟩
    by_cases hst : stones.testBit p = true
    · have hg := rs p hp (hsub p hst)
      have hgb := hG.2.2.2.2.2.2.2.1 p hp (hsub p hst)
      have h12 := hG.1
      have eside : I 5 p = nI (G (27 + p)) := hg.1
      have eab : f_about I 1 (nI p) = nI (G (35 + p)) := by
        unfold f_about
        rw [if_pos hplace, ep]; exact hg.2
      have h1 : f_bit (I 21 3) (I 21 4) = 1 := by rw [f3, f4, f_bit_nI _ (by omega), am_b1 hst]
      refine hG2 [] 50 0 _ _ _ _ (am_nf h1 (And.intro (Or.inl rfl) (And.intro (Or.inl rfl) (And.intro (Or.inl rfl) ?_))))
      refine And.intro (rfl) (And.intro (rfl) (Exists.intro (G) (Exists.intro (b) (Exists.intro (G (35 + p)) (And.intro (hG) (And.intro (hRC) (And.intro (hgb.2) (And.intro (by rw [f4, eab]) (And.intro (hb) (And.intro (hn) (fun b2 L2 e1 e2 e3 => ?_)))))))))))
      rw [f1, f2, f4, eab, ep, show I (1 + 4) p = nI (G (27 + p)) from eside, f_bit_nI _ (by omega)] at e1
      have e4 : b2 = g_heed G kind snow stones p f b := by
        rw [e1]
        unfold g_heed
        rw [if_pos hst]
        have c0 : (nI kind = 0) = (kind = 0) := by rw [← nI_0, nI_eq (by omega) (by omega)]
        have c1 : (nI kind = 1) = (kind = 1) := by rw [show (1 : Int32) = nI 1 from rfl, nI_eq (by omega) (by omega)]
        have c3 : (nI kind = 3) = (kind = 3) := by rw [show (3 : Int32) = nI 3 from rfl, nI_eq (by omega) (by omega)]
        have cs : (nI (G (27 + p)) = nI f) = (G (27 + p) = f) := by rw [nI_eq (by omega) (by omega)]
        simp only [c0, c1, c3, cs, hplace, true_and, am_bz, Classical.not_not, Bool.not_eq_true, and_self]
        by_cases q1 : kind = 0 ∨ G (27 + p) = f ∧ (kind = 1 ∨ kind = 3)
        · rw [if_pos q1, if_pos q1]
          by_cases q2 : (snow.testBit (G (35 + p)) = false ↔ G (27 + p) = f)
          · simp [q2]
          · simp [q2]
        · rw [if_neg q1, if_neg q1]
          by_cases q3 : kind = 3
          · rw [if_pos q3, if_pos q3]
            by_cases q2 : (snow.testBit (G (35 + p)) = false ↔ G (27 + p) = f)
            · simp [q2]
            · simp [q2]
          · rw [if_neg q3, if_neg q3]
            simp
      subst e4
      exact h L2 e2 e3
    · have h1 : ¬ f_bit (I 21 3) (I 21 4) = 1 := by rw [f3, f4, f_bit_nI _ (by omega), am_b0 hst]; decide
      have e4 : g_heed G kind snow stones p f b = b := by unfold g_heed; rw [if_neg hst]
      rw [e4] at h
      have e := h L hn (fun _ _ => rfl)
      rw [am_ui_id hb] at e
      exact hG2 [] 50 0 _ _ _ _ (am_nt h1 e)
  · exact h.elim
def T_JN_look : am_Sp := fun vs I L post => match vs with
  | [.ref o, .ref r] => o = 21 ∧ r = 1 ∧ ∃ G p b V, WG G ∧ RC I L 1 G ∧ p < 8 ∧ b < 4096 ∧ I 21 4 = nI p ∧ I 21 8 = nI b ∧ NB L 21 9 G b ∧ SC I L V ∧ ∀ (e : Nat) (I2 : am_I) (L2 : am_J), e = (if p = G 43 then 0 else if V (p * 4096 + b) = true then 2 else if g_tgt G (p, b) = none then 1 else 3) → I2 21 7 = nI e → (∀ t, g_tgt G (p, b) = some t → e = 3 → I2 21 5 = nI t) → SC I2 L2 (fun s => V s || (!decide (p = G 43) && decide (s = p * 4096 + b))) → (∀ k, k ≠ 5 → k ≠ 7 → I2 21 k = I 21 k) → (∀ a, a ≠ 21 → a ≠ 22 → a ≠ 24 → I2 a = I a) → (∀ a, a ≠ 23 → L2 a = L a) → post none I2 L2
  | _ => False
def sp_JN_look : Nat → am_Sp := fun i => match i with
  | 101 => T_SN_add
  | 104 => T_NT_towards
  | _ => am_no
set_option maxRecDepth 100000 in
theorem ok_JN_look : am_Ok am_SX sp_JN_look false k_JN_look 2 T_JN_look := by
  intro vs I L post h
  unfold T_JN_look at h
  split at h
  · rename_i o r
    obtain ⟨rfl, rfl, G, p, b, V, hG, hRC, hp, hb, f4, f8, hn, hs, h⟩ := h
    refine ⟨Nat.le_of_ble_eq_true rfl, fun G2 hG2 => ?_⟩
    obtain ⟨r5, r6, r7, r8, r9, rw2, rj, rs, -, -⟩ := id hRC
    have h43 : G 43 < 8 := hG.2.2.2.2.2.2.2.2.1
    by_cases hh : p = G 43
    · have c : I 21 4 = I 1 9 := by rw [f4, r9, hh]
      refine hG2 [] 50 0 _ _ _ _ (am_nf c ?_)
      show post none (am_ui I 21 7 0) L
      refine h 0 _ _ (by rw [if_pos hh]) am_ui_e (fun t _ q => by cases q) ?_ (fun k _ hk => am_ui_n (fun z => hk z.2)) (fun a ha _ _ => am_ui_o ha) (fun _ _ => rfl)
      refine SC_congr (SC_fr hs (am_ui_n (by omega)) (am_ui_o (by omega)) rfl) (fun s _ => by simp [hh])
    · have c : ¬ I 21 4 = I 1 9 := by rw [f4, r9, nI_eq (by omega) (by omega)]; exact hh
      refine hG2 [] 50 0 _ _ _ _ (am_nt c ?_)
      refine And.intro (rfl) (Exists.intro (p) (Exists.intro (b) (Exists.intro (V) (And.intro (hp) (And.intro (hb) (And.intro (f4) (And.intro (f8) (And.intro (hs) (fun I2 L2 hs2 hI2 hL2 => ?_)))))))))
      have e21 : I2 21 = I 21 := hI2 21 (by omega) (by omega)
      have e1 : I2 1 = I 1 := hI2 1 (by omega) (by omega)
      have l21 : L2 21 = L 21 := hL2 21 (by omega)
      have hs3 : SC I2 L2 (fun s => V s || (!decide (p = G 43) && decide (s = p * 4096 + b))) := SC_congr hs2 (fun s _ => by simp [hh])
      cases hV : V (p * 4096 + b) with
      | true =>
        refine am_nf (am_b0 (by simp)) ?_
        show post none (am_ui I2 21 7 2) L2
        refine h 2 _ _ (by rw [if_neg hh, if_pos hV]) am_ui_e (fun t _ q => by cases q) (SC_fr hs3 (am_ui_n (by omega)) (am_ui_o (by omega)) rfl) (fun k _ hk => (am_ui_n (fun z => hk z.2)).trans (by rw [e21])) (fun a ha h2 h4 => (am_ui_o ha).trans (hI2 a h2 h4)) hL2
      | false =>
        refine am_nt (by rw [am_b1 rfl]; decide) ?_
        refine Exists.intro (p) (Exists.intro (G 43) (And.intro (hp) (And.intro (h43) (And.intro (by rw [e21]; exact f4) (And.intro (by rw [e1]; exact r9) (?_))))))
        have et : g_to (fun p q => bl (L2 21 9) (8 * p + q)) (G 43) p = g_tgt G (p, b) := g_to_congr (fun x y hx hy => by rw [l21]; exact hn x y hx hy) hp
        rw [et]
        cases ht : g_tgt G (p, b) with
        | none =>
          refine am_nf (show am_ui I2 21 5 (-1) 21 5 < 0 by rw [am_ui_e]; decide) ?_
          show post none (am_ui (am_ui I2 21 5 (-1)) 21 7 1) L2
          refine h 1 _ _ (by rw [if_neg hh, if_neg (by rw [hV]; decide), if_pos ht]) am_ui_e (fun t _ q => by cases q) (SC_fr hs3 ((am_ui_n (by omega)).trans (am_ui_n (by omega))) ((am_ui_o (by omega)).trans (am_ui_o (by omega))) rfl) (fun k h5 hk => (am_ui_n (fun z => hk z.2)).trans ((am_ui_n (fun z => h5 z.2)).trans (by rw [e21]))) (fun a ha h2 h4 => (am_ui_o ha).trans ((am_ui_o ha).trans (hI2 a h2 h4))) hL2
        | some t =>
          have ht8 := (g_to_spec ht).1
          refine am_nt (show ¬ am_ui I2 21 5 (nI t) 21 5 < 0 by rw [am_ui_e]; exact nI_pos (by omega)) ?_
          show post none (am_ui (am_ui I2 21 5 (nI t)) 21 7 3) L2
          refine h 3 _ _ (by rw [if_neg hh, if_neg (by rw [hV]; decide), if_neg (by rw [ht]; exact fun q => by cases q)]) am_ui_e (fun t' q _ => by rw [ht] at q; cases q; rw [am_ui_n (by omega), am_ui_e]) (SC_fr hs3 ((am_ui_n (by omega)).trans (am_ui_n (by omega))) ((am_ui_o (by omega)).trans (am_ui_o (by omega))) rfl) (fun k h5 hk => (am_ui_n (fun z => hk z.2)).trans ((am_ui_n (fun z => h5 z.2)).trans (by rw [e21]))) (fun a ha h2 h4 => (am_ui_o ha).trans ((am_ui_o ha).trans (hI2 a h2 h4))) hL2
  · exact h.elim
