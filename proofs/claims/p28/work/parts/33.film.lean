/-! THE CLASS: a journey filmed -/
theorem CR_fr {I I2 : am_I} {L L2 : am_J} {A : am_A} (h : CR I L A) (hI : ∀ a : Nat, a ≤ 33 → I2 a = I a) (hL : ∀ a : Nat, a ≤ 33 → L2 a = L a) : CR I2 L2 A := by
  obtain ⟨G, K, hk, tn, tt, ln, sz, it⟩ := A
  obtain ⟨h1, h2, h3, h4, h5, ⟨V, h6⟩, h7⟩ := h
  exact ⟨h1, RC_fr h2 (fun a _ _ => hI a (by omega)) (hL 1 (by omega)), RC_fr h3 (fun a _ _ => hI a (by omega)) (hL 7 (by omega)), by rw [hI 0 (by omega)]; exact h4, TP_fr h5 (by rw [hI 19 (by omega)]) (hI 20 (by omega)), ⟨V, SC_fr h6 (by rw [hI 22 (by omega)]) (hI 24 (by omega)) (hL 23 (by omega))⟩, SHc_fr h7 (fun a _ _ => hI a (by omega)) (fun a _ _ => hL a (by omega))⟩
def g_mn (T n : Nat) : Nat := if T < n then T else n
def g_trk (G : Nat → Nat) (kind f : Nat) : Nat → Int64 := fun k => (nI (g_S G kind (G 44) (G 26) f (k + 1)).1).toInt64
def o_film : am_A → Int32 → Int32 → Int32 → Int32 → Int32 → Int32 → Int32 × am_A
  | (G, K, hk, tn, tt, ln, sz, it), kind, f, s, a, i, n => if ¬ ((0 ≤ kind ∧ kind < 4) ∧ (0 ≤ f ∧ f < 8) ∧ (0 ≤ s ∧ s < 4) ∧ (0 ≤ a ∧ a < 3) ∧ (1 ≤ n ∧ n ≤ 24)) then (-1, (G, K, hk, tn, tt, ln, sz, it)) else if ¬ o_bars ln sz s.toNatClampNeg a i (nI (g_mn (g_T G kind.toNatClampNeg (G 44) (G 26) f.toNatClampNeg) n.toNatClampNeg)) = 0 then (o_bars ln sz s.toNatClampNeg a i (nI (g_mn (g_T G kind.toNatClampNeg (G 44) (G 26) f.toNatClampNeg) n.toNatClampNeg)), (G, K, hk, tn, tt, ln, sz, it)) else
    (nI (g_mn (g_T G kind.toNatClampNeg (G 44) (G 26) f.toNatClampNeg) n.toNatClampNeg), (G, K, hk, tn, tt, ln, sz, o_upd it s.toNatClampNeg (o_cpy (g_trk G kind.toNatClampNeg f.toNatClampNeg) (it s.toNatClampNeg) 0 i.toNatClampNeg (g_mn (g_T G kind.toNatClampNeg (G 44) (G 26) f.toNatClampNeg) n.toNatClampNeg))))
theorem f_cut_pl {a : Int32} (h : a = 0 ∨ a = 1 ∨ a = 2) : ∀ p, p < 8 → f_cut a (nI p).toInt64 = (nI p).toInt64 := by
  rcases h with rfl | rfl | rfl <;> decide +kernel
def T_RP_layTrail : am_Sp := fun vs I L post => match vs with
  | [.ref o, .int x, .int y, .int w] => o = 0 ∧ ∃ A, ∃ kind f nn : Nat, kind < 4 ∧ f < 8 ∧ nn ≤ 24 ∧ CR I L A ∧ x = nI kind ∧ y = nI f ∧ w = nI nn ∧ ∀ (I2 : am_I) (L2 : am_J), CR I2 L2 A → (∀ j, j < g_mn (g_T A.1 kind (A.1 44) (A.1 26) f) nn → I2 34 j = nI (g_S A.1 kind (A.1 44) (A.1 26) f (j + 1)).1) → post (some (.int (nI (g_mn (g_T A.1 kind (A.1 44) (A.1 26) f) nn)))) I2 L2
  | _ => False
def sp_RP_layTrail : Nat → am_Sp := fun i => match i with
  | 227 => T_JN_begin
  | 231 => T_JN_goOn
  | _ => am_no
set_option maxRecDepth 100000 in
set_option maxHeartbeats 4000000 in
theorem ok_RP_layTrail : am_Ok am_SX sp_RP_layTrail false k_RP_layTrail 5 T_RP_layTrail := by
  intro vs I L post h
  unfold T_RP_layTrail at h
  split at h
  · rename_i o x y w
    obtain ⟨rfl, A, kind, f, nn, hk4, hf8, hn24, hC, rfl, rfl, rfl, h⟩ := h
    refine ⟨Nat.le_of_ble_eq_true rfl, fun G2 hG2 => ?_⟩
    obtain ⟨G, K, hk, tn, tt, ln, sz, it⟩ := A
    dsimp only at h
    obtain ⟨hV, hR, hKr, hk7, hT, ⟨V, hS⟩, hSh⟩ := id hC
    have hX : JX G kind (G 26) f := JX_of hV.1 hk4 hf8
    have hTs := g_T_spec (snow := G 44) hX
    generalize hTe : g_T G kind (G 44) (G 26) f = T at h hTs
    have loop : ∀ d k (I1 : am_I) (L1 : am_J), nn - k = d → k ≤ nn → JS I1 L1 G kind (G 44) (G 26) f k → CR I1 L1 (G, K, hk, tn, tt, ln, sz, it) → (∀ j, j < k → I1 34 j = nI (g_S G kind (G 44) (G 26) f (j + 1)).1) → G2 30 [some (.ref 0), some (.int (nI kind)), some (.int (nI f)), some (.int (nI nn)), some (.int (nI k))] [] I1 L1 := by
      intro d
      induction d with
      | zero =>
        intro k I1 L1 hd hk1 hj hC1 hm
        have e : k = nn := by omega
        subst e
        refine hG2 [] 100 30 _ _ _ _ (am_nt (nI_nlt (Nat.le_refl k) (by omega)) ?_)
        show post (some (.int (I1 21 6))) I1 L1
        have hge : ¬ T < k := fun z => hTs.2.1 (hj.2.2.2.2.2.2.2.2.2.2 _ z)
        have e : g_mn T k = k := if_neg hge
        rw [e] at h
        rw [hj.2.2.2.2.1]
        exact h I1 L1 hC1 hm
      | succ d ih =>
        intro k I1 L1 hd hk1 hj hC1 hm
        have hR1 := hC1.2.1
        refine hG2 [(30, [])] 100 30 _ _ _ _ (am_nf (nI_lt (by omega) (by omega)) (am_nf (am_lt (show k < 24 by omega) rfl) (And.intro (rfl) (And.intro (rfl) (Exists.intro (G) (Exists.intro (kind) (Exists.intro (G 44) (Exists.intro (G 26) (Exists.intro (f) (Exists.intro (k) (Exists.intro (1) (And.intro (hX) (And.intro (hR1) (And.intro (rfl) (And.intro (by omega) (And.intro (hj) (fun i2 I3 L3 hi1 hi2 hi3 hj2 hf2 => ?_)))))))))))))))))
        have hC3 : CR I3 L3 (G, K, hk, tn, tt, ln, sz, it) := CR_FJ hC1 hf2 ⟨_, hj2.2.2.2.2.2.2.2.2.2.1⟩
        have j4 : I3 21 4 = nI (g_S G kind (G 44) (G 26) f i2).1 := hj2.2.2.2.1
        have j6 : I3 21 6 = nI i2 := hj2.2.2.2.2.1
        have jp := hj2.2.2.2.2.2.2.2.2.2.2
        have h34 : I3 34 = I1 34 := hf2.1 34 (by omega) (by omega) (by omega)
        show (I3 21 6 = nI k + 1 → _) ∧ (¬ I3 21 6 = nI k + 1 → _)
        rw [j6, nI_1]
        by_cases e : i2 = k + 1
        · subst e
          refine am_t rfl (And.intro (am_vin (by omega) rfl) ?_)
          show G2 30 [some (.ref 0), some (.int (nI kind)), some (.int (nI f)), some (.int (nI nn)), some (.int (nI k + 1))] [] (am_ui I3 34 (nI k).toNatClampNeg (I3 21 4)) L3
          rw [nI_1, nI_clamp (by omega), j4]
          refine ih (k + 1) _ L3 (by omega) (by omega) (JS_fr hj2 (am_ui_o (by omega)) (am_uo (by omega)) (am_ui_o (by omega)) rfl rfl) (CR_fr hC3 (fun a ha => am_ui_o (by omega)) (fun _ _ => rfl)) (fun j hj3 => ?_)
          by_cases e : j = k
          · subst e; exact am_ui_e
          · rw [am_uk e, h34]; exact hm j (by omega)
        · have e3 : i2 = k := by omega
          subst e3
          refine am_f (fun z => e ((nI_eq (by omega) (by omega)).mp z)) ?_
          have hen : ¬ g_end G (g_S G kind (G 44) (G 26) f) i2 = 3 := by
            rcases hi3 with q | q
            · omega
            · exact q
          have e4 := g_T_of hX hen jp
          rw [hTe] at e4
          have e5 : g_mn T nn = i2 := by unfold g_mn; rw [if_pos (by omega)]; exact e4.symm
          rw [e5] at h
          exact h I3 L3 hC3 (fun j hj => by rw [h34]; exact hm j hj)
    refine hG2 [(30, [])] 100 0 _ _ _ _ (And.intro (rfl) (And.intro (rfl) (Exists.intro (G) (Exists.intro (kind) (Exists.intro (G 44) (Exists.intro (G 26) (Exists.intro (f) (Exists.intro (V) (And.intro (hX) (And.intro (hR) (And.intro (rfl) (And.intro (rfl) (And.intro (hR.2.2.1) (And.intro (hR.2.2.2.1) (And.intro (hS) (fun I1 L1 hj1 hf1 => ?_))))))))))))))))
    exact loop nn 0 I1 L1 (by omega) (by omega) hj1 (CR_FJ hC hf1 ⟨_, hj1.2.2.2.2.2.2.2.2.2.1⟩) (fun j hj => by omega)
  · exact h.elim
def T_RP_film : am_Sp := fun vs I L post => match vs with
  | [.ref o, .int x, .int y, .int z, .int a, .int i, .int n] => o = 0 ∧ ∃ A, CR I L A ∧ ∀ (I2 : am_I) (L2 : am_J), CR I2 L2 (o_film A x y z a i n).2 → post (some (.int (o_film A x y z a i n).1)) I2 L2
  | _ => False
def sp_RP_film : Nat → am_Sp := fun i => match i with
  | 177 => T_RP_isFilmable
  | 181 => T_SH_refusal
  | 184 => T_SH_has
  | 191 => T_RP_layTrail
  | 195 => T_SH_put
  | _ => am_no
set_option maxRecDepth 100000 in
set_option maxHeartbeats 4000000 in
theorem ok_RP_film : am_Ok am_SX sp_RP_film false k_RP_film 11 T_RP_film := by
  intro vs I L post h
  unfold T_RP_film at h
  split at h
  · rename_i o x y z a i n
    obtain ⟨rfl, A, hC, h⟩ := h
    refine ⟨Nat.le_of_ble_eq_true rfl, fun G2 hG2 => ?_⟩
    obtain ⟨G, K, hk, tn, tt, ln, sz, it⟩ := A
    obtain ⟨hV, hR, hKr, hk7, hT, hS, hSh⟩ := id hC
    have hW : WG G := hV.1
    have h12 := hW.1
    dsimp only [o_film] at h
    by_cases hP : (0 ≤ x ∧ x < 4) ∧ (0 ≤ y ∧ y < 8) ∧ (0 ≤ z ∧ z < 4) ∧ (0 ≤ a ∧ a < 3) ∧ (1 ≤ n ∧ n ≤ 24)
    · rw [if_neg (fun q => q hP)] at h
      obtain ⟨kind, hk4, rfl⟩ := am_rng (n := 4) (by omega) hP.1.1 hP.1.2
      obtain ⟨f, hf8, rfl⟩ := am_rng (n := 8) (by omega) hP.2.1.1 hP.2.1.2
      obtain ⟨s, hs4, rfl⟩ := am_rng (n := 4) (by omega) hP.2.2.1.1 hP.2.2.1.2
      obtain ⟨nn, hn25, rfl⟩ := am_rng (n := 25) (by omega) (Int32.le_trans (by decide) hP.2.2.2.2.1) (Int32.lt_of_le_of_lt hP.2.2.2.2.2 (by decide))
      rw [nI_clamp (n := kind) (by omega), nI_clamp (n := f) (by omega), nI_clamp (n := s) (by omega), nI_clamp (n := nn) (by omega)] at h
      rcases (show s = 0 ∨ s = 1 ∨ s = 2 ∨ s = 3 by omega) with rfl | rfl | rfl | rfl
      · have q : I 26 1 = ln 0 ∧ (¬ ln 0 = -1 → I 26 2 = nI (sz 0)) ∧ ∀ j, j < 24 → L 27 j = it 0 j := hSh 0 (by omega)
        have hz24 := (hV.2.2.2.2 0 (by omega)).2
        refine hG2 [(68, [])] 100 0 _ _ _ _ (am_nt (am_bp hP) (And.intro (am_vin (N := 4) (n := 0) (by omega) rfl) (And.intro rfl (And.intro (by decide) (am_alS (s := 0) (o := 26) (by omega) rfl (And.intro (Or.inl rfl) ?_))))))
        by_cases hl : ln 0 = -1
        · have e : o_bars ln sz 0 a i (nI (g_mn (g_T G kind (G 44) (G 26) f) nn)) = -11 := by unfold o_bars; rw [if_pos hl]
          rw [e, if_pos (by decide)] at h
          rw [if_pos (q.1.trans hl)]
          exact am_f (by decide) (h I L hC)
        · rw [if_neg (fun z => hl (q.1.symm.trans z))]
          by_cases hla : ln 0 = a
          · rw [if_pos (q.1.trans hla)]
            refine am_t rfl (And.intro (rfl) (Exists.intro ((G, K, hk, tn, tt, ln, sz, it)) (Exists.intro (kind) (Exists.intro (f) (Exists.intro (nn) (And.intro (hk4) (And.intro (hf8) (And.intro (by omega) (And.intro (hC) (And.intro (rfl) (And.intro (rfl) (And.intro (rfl) (fun I2 L2 hC2 h34 => ?_)))))))))))))
            dsimp only at h34 ⊢
            have hmn : g_mn (g_T G kind (G 44) (G 26) f) nn ≤ 24 := by unfold g_mn; split <;> omega
            generalize hm : g_mn (g_T G kind (G 44) (G 26) f) nn = m at h h34 hmn
            have br := @o_bars_ran ln sz 0 a i (nI m) hl hla
            have q2 : I2 26 1 = ln 0 ∧ (¬ ln 0 = -1 → I2 26 2 = nI (sz 0)) ∧ ∀ j, j < 24 → L2 27 j = it 0 j := hC2.2.2.2.2.2.2 0 (by omega)
            refine And.intro (Or.inl rfl) ?_
            rw [am_has hz24 (q2.2.1 hl)]
            by_cases hi : 0 ≤ i.toInt ∧ 0 ≤ (nI m).toInt ∧ i.toInt + (nI m).toInt ≤ (sz 0 : Int)
            · rw [if_neg (fun z => z (br.mpr hi))] at h
              refine am_nt (am_bp hi) ?_
              obtain ⟨ii, hii, rfl⟩ := nI_of (am_n0 hi.1)
              rw [nI_toInt hii, nI_toInt (by omega)] at hi
              rw [nI_clamp hii] at h
              have hz : ii + m ≤ sz 0 := by omega
              have loop : ∀ d k (I1 : am_I) (L1 : am_J), m - k = d → k ≤ m → CR I1 L1 (G, K, hk, tn, tt, ln, sz, o_upd it 0 (o_cpy (g_trk G kind f) (it 0) 0 ii k)) → I1 34 = I2 34 → G2 68 [some (.ref 0), some (.int (nI kind)), some (.int (nI f)), some (.int (nI 0)), some (.int a), some (.int (nI ii)), some (.int (nI nn)), some (.ref 26), some (.int 0), some (.int (nI m)), some (.int (nI k))] [] I1 L1 := by
                intro d
                induction d with
                | zero =>
                  intro k I1 L1 hd hk1 hC1 _
                  have e : k = m := by omega
                  subst e
                  exact hG2 [] 100 68 _ _ _ _ (am_nt (nI_nlt (Nat.le_refl k) (by omega)) (h I1 L1 hC1))
                | succ d ih =>
                  intro k I1 L1 hd hk1 hC1 h34b
                  refine hG2 [(68, [])] 100 68 _ _ _ _ (am_nf (nI_lt (by omega) (by omega)) (And.intro (am_vin (show k < 24 by omega) rfl) ?_))
                  have p : I1 26 1 = ln 0 ∧ (¬ ln 0 = -1 → I1 26 2 = nI (sz 0)) ∧ ∀ j, j < 24 → L1 27 j = o_upd it 0 (o_cpy (g_trk G kind f) (it 0) 0 ii k) 0 j := hC1.2.2.2.2.2.2 0 (by omega)
                  have hb : f_hasB I1 26 (nI (ii + k)) 1 = 1 := by
                    rw [am_has hz24 (p.2.1 hl)]
                    have e1 : (1 : Int32).toInt = 1 := rfl
                    rw [nI_toInt (by omega)]
                    exact am_b1 ⟨by omega, by omega, by omega⟩
                  show am_isS 26 ∧ ((f_hasB I1 26 (nI ii + nI k) 1 = 1 → vp_in (nI ii + nI k) 24) ∧ _)
                  rw [nI_add]
                  refine And.intro (Or.inl rfl) (And.intro (fun _ => am_vin (by omega) rfl) ?_)
                  show G2 68 [some (.ref 0), some (.int (nI kind)), some (.int (nI f)), some (.int (nI 0)), some (.int a), some (.int (nI ii)), some (.int (nI nn)), some (.ref 26), some (.int 0), some (.int (nI m)), some (.int (nI k + 1))] [] I1 (if f_hasB I1 26 (nI (ii + k)) 1 = 1 then am_uj L1 27 (nI (ii + k)).toNatClampNeg (f_cut (I1 26 1) (I1 34 (nI k).toNatClampNeg).toInt64) else L1)
                  have hp8 := (g_S_lt (kind := kind) (snow := G 44) (stones := G 26) (f := f) hW (fun _ q => q) hf8 (k + 1)).1
                  rw [if_pos hb, nI_1, nI_clamp (by omega), nI_clamp (by omega), h34b, h34 k (by omega), p.1, hla, f_cut_pl (am_lane hP.2.2.2.1) _ hp8]
                  refine ih (k + 1) _ _ (by omega) (by omega) (CR_sh (s := 0) hC1 (by omega) (fun _ _ => rfl) (fun c hc => am_uj_o hc) (hV.2.2.2.2 0 (by omega)) (fun u hu => ⟨rfl, rfl, by rw [o_upd_n hu, o_upd_n hu]⟩) p.1 p.2.1 (fun j hj => ?_)) h34b
                  rw [o_upd_e]
                  show am_uj L1 27 (ii + k) (nI (g_S G kind (G 44) (G 26) f (k + 1)).1).toInt64 27 j = o_cpy (g_trk G kind f) (it 0) 0 ii (k + 1) j
                  have p3 := p.2.2 j hj
                  rw [o_upd_e] at p3
                  unfold o_cpy at p3 ⊢
                  by_cases e : j = ii + k
                  · subst e
                    rw [am_uj_e, if_pos ⟨by omega, by omega⟩, show 0 + (ii + k - ii) = k by omega]
                    rfl
                  · rw [am_uj_n (fun z => e z.2), p3]
                    by_cases e2 : ii ≤ j ∧ j < ii + k
                    · rw [if_pos e2, if_pos ⟨e2.1, by omega⟩]
                    · rw [if_neg e2, if_neg (fun z => e2 ⟨z.1, by omega⟩)]
              show G2 68 [some (.ref 0), some (.int (nI kind)), some (.int (nI f)), some (.int (nI 0)), some (.int a), some (.int (nI ii)), some (.int (nI nn)), some (.ref 26), some (.int 0), some (.int (nI m)), some (.int (0))] [] I2 L2
              refine loop m 0 I2 L2 (by omega) (by omega) (CR_sh (s := 0) hC2 (by omega) (fun _ _ => rfl) (fun _ _ => rfl) (hV.2.2.2.2 0 (by omega)) (fun u hu => ⟨rfl, rfl, o_upd_n hu⟩) q2.1 q2.2.1 (fun j hj => ?_)) rfl
              rw [o_upd_e]
              unfold o_cpy
              rw [if_neg (by omega)]
              exact q2.2.2 j hj
            · rw [if_pos (fun z => hi (br.mp z))] at h
              have e : o_bars ln sz 0 a i (nI m) = -13 := by rw [o_bars_0 hl hla, if_neg hi]
              rw [e] at h
              exact am_nf (am_bn hi) (h I2 L2 hC2)
          · have e : o_bars ln sz 0 a i (nI (g_mn (g_T G kind (G 44) (G 26) f) nn)) = -12 := by unfold o_bars; rw [if_neg hl, if_pos hla]
            rw [e, if_pos (by decide)] at h
            rw [if_neg (fun z => hla (q.1.symm.trans z))]
            exact am_f (by decide) (h I L hC)
      · have q : I 28 1 = ln 1 ∧ (¬ ln 1 = -1 → I 28 2 = nI (sz 1)) ∧ ∀ j, j < 24 → L 29 j = it 1 j := hSh 1 (by omega)
        have hz24 := (hV.2.2.2.2 1 (by omega)).2
        refine hG2 [(68, [])] 100 0 _ _ _ _ (am_nt (am_bp hP) (And.intro (am_vin (N := 4) (n := 1) (by omega) rfl) (And.intro rfl (And.intro (by decide) (am_alS (s := 1) (o := 28) (by omega) rfl (And.intro (Or.inr (Or.inl rfl)) ?_))))))
        by_cases hl : ln 1 = -1
        · have e : o_bars ln sz 1 a i (nI (g_mn (g_T G kind (G 44) (G 26) f) nn)) = -11 := by unfold o_bars; rw [if_pos hl]
          rw [e, if_pos (by decide)] at h
          rw [if_pos (q.1.trans hl)]
          exact am_f (by decide) (h I L hC)
        · rw [if_neg (fun z => hl (q.1.symm.trans z))]
          by_cases hla : ln 1 = a
          · rw [if_pos (q.1.trans hla)]
            refine am_t rfl (And.intro (rfl) (Exists.intro ((G, K, hk, tn, tt, ln, sz, it)) (Exists.intro (kind) (Exists.intro (f) (Exists.intro (nn) (And.intro (hk4) (And.intro (hf8) (And.intro (by omega) (And.intro (hC) (And.intro (rfl) (And.intro (rfl) (And.intro (rfl) (fun I2 L2 hC2 h34 => ?_)))))))))))))
            dsimp only at h34 ⊢
            have hmn : g_mn (g_T G kind (G 44) (G 26) f) nn ≤ 24 := by unfold g_mn; split <;> omega
            generalize hm : g_mn (g_T G kind (G 44) (G 26) f) nn = m at h h34 hmn
            have br := @o_bars_ran ln sz 1 a i (nI m) hl hla
            have q2 : I2 28 1 = ln 1 ∧ (¬ ln 1 = -1 → I2 28 2 = nI (sz 1)) ∧ ∀ j, j < 24 → L2 29 j = it 1 j := hC2.2.2.2.2.2.2 1 (by omega)
            refine And.intro (Or.inr (Or.inl rfl)) ?_
            rw [am_has hz24 (q2.2.1 hl)]
            by_cases hi : 0 ≤ i.toInt ∧ 0 ≤ (nI m).toInt ∧ i.toInt + (nI m).toInt ≤ (sz 1 : Int)
            · rw [if_neg (fun z => z (br.mpr hi))] at h
              refine am_nt (am_bp hi) ?_
              obtain ⟨ii, hii, rfl⟩ := nI_of (am_n0 hi.1)
              rw [nI_toInt hii, nI_toInt (by omega)] at hi
              rw [nI_clamp hii] at h
              have hz : ii + m ≤ sz 1 := by omega
              have loop : ∀ d k (I1 : am_I) (L1 : am_J), m - k = d → k ≤ m → CR I1 L1 (G, K, hk, tn, tt, ln, sz, o_upd it 1 (o_cpy (g_trk G kind f) (it 1) 0 ii k)) → I1 34 = I2 34 → G2 68 [some (.ref 0), some (.int (nI kind)), some (.int (nI f)), some (.int (nI 1)), some (.int a), some (.int (nI ii)), some (.int (nI nn)), some (.ref 28), some (.int 0), some (.int (nI m)), some (.int (nI k))] [] I1 L1 := by
                intro d
                induction d with
                | zero =>
                  intro k I1 L1 hd hk1 hC1 _
                  have e : k = m := by omega
                  subst e
                  exact hG2 [] 100 68 _ _ _ _ (am_nt (nI_nlt (Nat.le_refl k) (by omega)) (h I1 L1 hC1))
                | succ d ih =>
                  intro k I1 L1 hd hk1 hC1 h34b
                  refine hG2 [(68, [])] 100 68 _ _ _ _ (am_nf (nI_lt (by omega) (by omega)) (And.intro (am_vin (show k < 24 by omega) rfl) ?_))
                  have p : I1 28 1 = ln 1 ∧ (¬ ln 1 = -1 → I1 28 2 = nI (sz 1)) ∧ ∀ j, j < 24 → L1 29 j = o_upd it 1 (o_cpy (g_trk G kind f) (it 1) 0 ii k) 1 j := hC1.2.2.2.2.2.2 1 (by omega)
                  have hb : f_hasB I1 28 (nI (ii + k)) 1 = 1 := by
                    rw [am_has hz24 (p.2.1 hl)]
                    have e1 : (1 : Int32).toInt = 1 := rfl
                    rw [nI_toInt (by omega)]
                    exact am_b1 ⟨by omega, by omega, by omega⟩
                  show am_isS 28 ∧ ((f_hasB I1 28 (nI ii + nI k) 1 = 1 → vp_in (nI ii + nI k) 24) ∧ _)
                  rw [nI_add]
                  refine And.intro (Or.inr (Or.inl rfl)) (And.intro (fun _ => am_vin (by omega) rfl) ?_)
                  show G2 68 [some (.ref 0), some (.int (nI kind)), some (.int (nI f)), some (.int (nI 1)), some (.int a), some (.int (nI ii)), some (.int (nI nn)), some (.ref 28), some (.int 0), some (.int (nI m)), some (.int (nI k + 1))] [] I1 (if f_hasB I1 28 (nI (ii + k)) 1 = 1 then am_uj L1 29 (nI (ii + k)).toNatClampNeg (f_cut (I1 28 1) (I1 34 (nI k).toNatClampNeg).toInt64) else L1)
                  have hp8 := (g_S_lt (kind := kind) (snow := G 44) (stones := G 26) (f := f) hW (fun _ q => q) hf8 (k + 1)).1
                  rw [if_pos hb, nI_1, nI_clamp (by omega), nI_clamp (by omega), h34b, h34 k (by omega), p.1, hla, f_cut_pl (am_lane hP.2.2.2.1) _ hp8]
                  refine ih (k + 1) _ _ (by omega) (by omega) (CR_sh (s := 1) hC1 (by omega) (fun _ _ => rfl) (fun c hc => am_uj_o hc) (hV.2.2.2.2 1 (by omega)) (fun u hu => ⟨rfl, rfl, by rw [o_upd_n hu, o_upd_n hu]⟩) p.1 p.2.1 (fun j hj => ?_)) h34b
                  rw [o_upd_e]
                  show am_uj L1 29 (ii + k) (nI (g_S G kind (G 44) (G 26) f (k + 1)).1).toInt64 29 j = o_cpy (g_trk G kind f) (it 1) 0 ii (k + 1) j
                  have p3 := p.2.2 j hj
                  rw [o_upd_e] at p3
                  unfold o_cpy at p3 ⊢
                  by_cases e : j = ii + k
                  · subst e
                    rw [am_uj_e, if_pos ⟨by omega, by omega⟩, show 0 + (ii + k - ii) = k by omega]
                    rfl
                  · rw [am_uj_n (fun z => e z.2), p3]
                    by_cases e2 : ii ≤ j ∧ j < ii + k
                    · rw [if_pos e2, if_pos ⟨e2.1, by omega⟩]
                    · rw [if_neg e2, if_neg (fun z => e2 ⟨z.1, by omega⟩)]
              show G2 68 [some (.ref 0), some (.int (nI kind)), some (.int (nI f)), some (.int (nI 1)), some (.int a), some (.int (nI ii)), some (.int (nI nn)), some (.ref 28), some (.int 0), some (.int (nI m)), some (.int (0))] [] I2 L2
              refine loop m 0 I2 L2 (by omega) (by omega) (CR_sh (s := 1) hC2 (by omega) (fun _ _ => rfl) (fun _ _ => rfl) (hV.2.2.2.2 1 (by omega)) (fun u hu => ⟨rfl, rfl, o_upd_n hu⟩) q2.1 q2.2.1 (fun j hj => ?_)) rfl
              rw [o_upd_e]
              unfold o_cpy
              rw [if_neg (by omega)]
              exact q2.2.2 j hj
            · rw [if_pos (fun z => hi (br.mp z))] at h
              have e : o_bars ln sz 1 a i (nI m) = -13 := by rw [o_bars_0 hl hla, if_neg hi]
              rw [e] at h
              exact am_nf (am_bn hi) (h I2 L2 hC2)
          · have e : o_bars ln sz 1 a i (nI (g_mn (g_T G kind (G 44) (G 26) f) nn)) = -12 := by unfold o_bars; rw [if_neg hl, if_pos hla]
            rw [e, if_pos (by decide)] at h
            rw [if_neg (fun z => hla (q.1.symm.trans z))]
            exact am_f (by decide) (h I L hC)
      · have q : I 30 1 = ln 2 ∧ (¬ ln 2 = -1 → I 30 2 = nI (sz 2)) ∧ ∀ j, j < 24 → L 31 j = it 2 j := hSh 2 (by omega)
        have hz24 := (hV.2.2.2.2 2 (by omega)).2
        refine hG2 [(68, [])] 100 0 _ _ _ _ (am_nt (am_bp hP) (And.intro (am_vin (N := 4) (n := 2) (by omega) rfl) (And.intro rfl (And.intro (by decide) (am_alS (s := 2) (o := 30) (by omega) rfl (And.intro (Or.inr (Or.inr (Or.inl rfl))) ?_))))))
        by_cases hl : ln 2 = -1
        · have e : o_bars ln sz 2 a i (nI (g_mn (g_T G kind (G 44) (G 26) f) nn)) = -11 := by unfold o_bars; rw [if_pos hl]
          rw [e, if_pos (by decide)] at h
          rw [if_pos (q.1.trans hl)]
          exact am_f (by decide) (h I L hC)
        · rw [if_neg (fun z => hl (q.1.symm.trans z))]
          by_cases hla : ln 2 = a
          · rw [if_pos (q.1.trans hla)]
            refine am_t rfl (And.intro (rfl) (Exists.intro ((G, K, hk, tn, tt, ln, sz, it)) (Exists.intro (kind) (Exists.intro (f) (Exists.intro (nn) (And.intro (hk4) (And.intro (hf8) (And.intro (by omega) (And.intro (hC) (And.intro (rfl) (And.intro (rfl) (And.intro (rfl) (fun I2 L2 hC2 h34 => ?_)))))))))))))
            dsimp only at h34 ⊢
            have hmn : g_mn (g_T G kind (G 44) (G 26) f) nn ≤ 24 := by unfold g_mn; split <;> omega
            generalize hm : g_mn (g_T G kind (G 44) (G 26) f) nn = m at h h34 hmn
            have br := @o_bars_ran ln sz 2 a i (nI m) hl hla
            have q2 : I2 30 1 = ln 2 ∧ (¬ ln 2 = -1 → I2 30 2 = nI (sz 2)) ∧ ∀ j, j < 24 → L2 31 j = it 2 j := hC2.2.2.2.2.2.2 2 (by omega)
            refine And.intro (Or.inr (Or.inr (Or.inl rfl))) ?_
            rw [am_has hz24 (q2.2.1 hl)]
            by_cases hi : 0 ≤ i.toInt ∧ 0 ≤ (nI m).toInt ∧ i.toInt + (nI m).toInt ≤ (sz 2 : Int)
            · rw [if_neg (fun z => z (br.mpr hi))] at h
              refine am_nt (am_bp hi) ?_
              obtain ⟨ii, hii, rfl⟩ := nI_of (am_n0 hi.1)
              rw [nI_toInt hii, nI_toInt (by omega)] at hi
              rw [nI_clamp hii] at h
              have hz : ii + m ≤ sz 2 := by omega
              have loop : ∀ d k (I1 : am_I) (L1 : am_J), m - k = d → k ≤ m → CR I1 L1 (G, K, hk, tn, tt, ln, sz, o_upd it 2 (o_cpy (g_trk G kind f) (it 2) 0 ii k)) → I1 34 = I2 34 → G2 68 [some (.ref 0), some (.int (nI kind)), some (.int (nI f)), some (.int (nI 2)), some (.int a), some (.int (nI ii)), some (.int (nI nn)), some (.ref 30), some (.int 0), some (.int (nI m)), some (.int (nI k))] [] I1 L1 := by
                intro d
                induction d with
                | zero =>
                  intro k I1 L1 hd hk1 hC1 _
                  have e : k = m := by omega
                  subst e
                  exact hG2 [] 100 68 _ _ _ _ (am_nt (nI_nlt (Nat.le_refl k) (by omega)) (h I1 L1 hC1))
                | succ d ih =>
                  intro k I1 L1 hd hk1 hC1 h34b
                  refine hG2 [(68, [])] 100 68 _ _ _ _ (am_nf (nI_lt (by omega) (by omega)) (And.intro (am_vin (show k < 24 by omega) rfl) ?_))
                  have p : I1 30 1 = ln 2 ∧ (¬ ln 2 = -1 → I1 30 2 = nI (sz 2)) ∧ ∀ j, j < 24 → L1 31 j = o_upd it 2 (o_cpy (g_trk G kind f) (it 2) 0 ii k) 2 j := hC1.2.2.2.2.2.2 2 (by omega)
                  have hb : f_hasB I1 30 (nI (ii + k)) 1 = 1 := by
                    rw [am_has hz24 (p.2.1 hl)]
                    have e1 : (1 : Int32).toInt = 1 := rfl
                    rw [nI_toInt (by omega)]
                    exact am_b1 ⟨by omega, by omega, by omega⟩
                  show am_isS 30 ∧ ((f_hasB I1 30 (nI ii + nI k) 1 = 1 → vp_in (nI ii + nI k) 24) ∧ _)
                  rw [nI_add]
                  refine And.intro (Or.inr (Or.inr (Or.inl rfl))) (And.intro (fun _ => am_vin (by omega) rfl) ?_)
                  show G2 68 [some (.ref 0), some (.int (nI kind)), some (.int (nI f)), some (.int (nI 2)), some (.int a), some (.int (nI ii)), some (.int (nI nn)), some (.ref 30), some (.int 0), some (.int (nI m)), some (.int (nI k + 1))] [] I1 (if f_hasB I1 30 (nI (ii + k)) 1 = 1 then am_uj L1 31 (nI (ii + k)).toNatClampNeg (f_cut (I1 30 1) (I1 34 (nI k).toNatClampNeg).toInt64) else L1)
                  have hp8 := (g_S_lt (kind := kind) (snow := G 44) (stones := G 26) (f := f) hW (fun _ q => q) hf8 (k + 1)).1
                  rw [if_pos hb, nI_1, nI_clamp (by omega), nI_clamp (by omega), h34b, h34 k (by omega), p.1, hla, f_cut_pl (am_lane hP.2.2.2.1) _ hp8]
                  refine ih (k + 1) _ _ (by omega) (by omega) (CR_sh (s := 2) hC1 (by omega) (fun _ _ => rfl) (fun c hc => am_uj_o hc) (hV.2.2.2.2 2 (by omega)) (fun u hu => ⟨rfl, rfl, by rw [o_upd_n hu, o_upd_n hu]⟩) p.1 p.2.1 (fun j hj => ?_)) h34b
                  rw [o_upd_e]
                  show am_uj L1 31 (ii + k) (nI (g_S G kind (G 44) (G 26) f (k + 1)).1).toInt64 31 j = o_cpy (g_trk G kind f) (it 2) 0 ii (k + 1) j
                  have p3 := p.2.2 j hj
                  rw [o_upd_e] at p3
                  unfold o_cpy at p3 ⊢
                  by_cases e : j = ii + k
                  · subst e
                    rw [am_uj_e, if_pos ⟨by omega, by omega⟩, show 0 + (ii + k - ii) = k by omega]
                    rfl
                  · rw [am_uj_n (fun z => e z.2), p3]
                    by_cases e2 : ii ≤ j ∧ j < ii + k
                    · rw [if_pos e2, if_pos ⟨e2.1, by omega⟩]
                    · rw [if_neg e2, if_neg (fun z => e2 ⟨z.1, by omega⟩)]
              show G2 68 [some (.ref 0), some (.int (nI kind)), some (.int (nI f)), some (.int (nI 2)), some (.int a), some (.int (nI ii)), some (.int (nI nn)), some (.ref 30), some (.int 0), some (.int (nI m)), some (.int (0))] [] I2 L2
              refine loop m 0 I2 L2 (by omega) (by omega) (CR_sh (s := 2) hC2 (by omega) (fun _ _ => rfl) (fun _ _ => rfl) (hV.2.2.2.2 2 (by omega)) (fun u hu => ⟨rfl, rfl, o_upd_n hu⟩) q2.1 q2.2.1 (fun j hj => ?_)) rfl
              rw [o_upd_e]
              unfold o_cpy
              rw [if_neg (by omega)]
              exact q2.2.2 j hj
            · rw [if_pos (fun z => hi (br.mp z))] at h
              have e : o_bars ln sz 2 a i (nI m) = -13 := by rw [o_bars_0 hl hla, if_neg hi]
              rw [e] at h
              exact am_nf (am_bn hi) (h I2 L2 hC2)
          · have e : o_bars ln sz 2 a i (nI (g_mn (g_T G kind (G 44) (G 26) f) nn)) = -12 := by unfold o_bars; rw [if_neg hl, if_pos hla]
            rw [e, if_pos (by decide)] at h
            rw [if_neg (fun z => hla (q.1.symm.trans z))]
            exact am_f (by decide) (h I L hC)
      · have q : I 32 1 = ln 3 ∧ (¬ ln 3 = -1 → I 32 2 = nI (sz 3)) ∧ ∀ j, j < 24 → L 33 j = it 3 j := hSh 3 (by omega)
        have hz24 := (hV.2.2.2.2 3 (by omega)).2
        refine hG2 [(68, [])] 100 0 _ _ _ _ (am_nt (am_bp hP) (And.intro (am_vin (N := 4) (n := 3) (by omega) rfl) (And.intro rfl (And.intro (by decide) (am_alS (s := 3) (o := 32) (by omega) rfl (And.intro (Or.inr (Or.inr (Or.inr rfl))) ?_))))))
        by_cases hl : ln 3 = -1
        · have e : o_bars ln sz 3 a i (nI (g_mn (g_T G kind (G 44) (G 26) f) nn)) = -11 := by unfold o_bars; rw [if_pos hl]
          rw [e, if_pos (by decide)] at h
          rw [if_pos (q.1.trans hl)]
          exact am_f (by decide) (h I L hC)
        · rw [if_neg (fun z => hl (q.1.symm.trans z))]
          by_cases hla : ln 3 = a
          · rw [if_pos (q.1.trans hla)]
            refine am_t rfl (And.intro (rfl) (Exists.intro ((G, K, hk, tn, tt, ln, sz, it)) (Exists.intro (kind) (Exists.intro (f) (Exists.intro (nn) (And.intro (hk4) (And.intro (hf8) (And.intro (by omega) (And.intro (hC) (And.intro (rfl) (And.intro (rfl) (And.intro (rfl) (fun I2 L2 hC2 h34 => ?_)))))))))))))
            dsimp only at h34 ⊢
            have hmn : g_mn (g_T G kind (G 44) (G 26) f) nn ≤ 24 := by unfold g_mn; split <;> omega
            generalize hm : g_mn (g_T G kind (G 44) (G 26) f) nn = m at h h34 hmn
            have br := @o_bars_ran ln sz 3 a i (nI m) hl hla
            have q2 : I2 32 1 = ln 3 ∧ (¬ ln 3 = -1 → I2 32 2 = nI (sz 3)) ∧ ∀ j, j < 24 → L2 33 j = it 3 j := hC2.2.2.2.2.2.2 3 (by omega)
            refine And.intro (Or.inr (Or.inr (Or.inr rfl))) ?_
            rw [am_has hz24 (q2.2.1 hl)]
            by_cases hi : 0 ≤ i.toInt ∧ 0 ≤ (nI m).toInt ∧ i.toInt + (nI m).toInt ≤ (sz 3 : Int)
            · rw [if_neg (fun z => z (br.mpr hi))] at h
              refine am_nt (am_bp hi) ?_
              obtain ⟨ii, hii, rfl⟩ := nI_of (am_n0 hi.1)
              rw [nI_toInt hii, nI_toInt (by omega)] at hi
              rw [nI_clamp hii] at h
              have hz : ii + m ≤ sz 3 := by omega
              have loop : ∀ d k (I1 : am_I) (L1 : am_J), m - k = d → k ≤ m → CR I1 L1 (G, K, hk, tn, tt, ln, sz, o_upd it 3 (o_cpy (g_trk G kind f) (it 3) 0 ii k)) → I1 34 = I2 34 → G2 68 [some (.ref 0), some (.int (nI kind)), some (.int (nI f)), some (.int (nI 3)), some (.int a), some (.int (nI ii)), some (.int (nI nn)), some (.ref 32), some (.int 0), some (.int (nI m)), some (.int (nI k))] [] I1 L1 := by
                intro d
                induction d with
                | zero =>
                  intro k I1 L1 hd hk1 hC1 _
                  have e : k = m := by omega
                  subst e
                  exact hG2 [] 100 68 _ _ _ _ (am_nt (nI_nlt (Nat.le_refl k) (by omega)) (h I1 L1 hC1))
                | succ d ih =>
                  intro k I1 L1 hd hk1 hC1 h34b
                  refine hG2 [(68, [])] 100 68 _ _ _ _ (am_nf (nI_lt (by omega) (by omega)) (And.intro (am_vin (show k < 24 by omega) rfl) ?_))
                  have p : I1 32 1 = ln 3 ∧ (¬ ln 3 = -1 → I1 32 2 = nI (sz 3)) ∧ ∀ j, j < 24 → L1 33 j = o_upd it 3 (o_cpy (g_trk G kind f) (it 3) 0 ii k) 3 j := hC1.2.2.2.2.2.2 3 (by omega)
                  have hb : f_hasB I1 32 (nI (ii + k)) 1 = 1 := by
                    rw [am_has hz24 (p.2.1 hl)]
                    have e1 : (1 : Int32).toInt = 1 := rfl
                    rw [nI_toInt (by omega)]
                    exact am_b1 ⟨by omega, by omega, by omega⟩
                  show am_isS 32 ∧ ((f_hasB I1 32 (nI ii + nI k) 1 = 1 → vp_in (nI ii + nI k) 24) ∧ _)
                  rw [nI_add]
                  refine And.intro (Or.inr (Or.inr (Or.inr rfl))) (And.intro (fun _ => am_vin (by omega) rfl) ?_)
                  show G2 68 [some (.ref 0), some (.int (nI kind)), some (.int (nI f)), some (.int (nI 3)), some (.int a), some (.int (nI ii)), some (.int (nI nn)), some (.ref 32), some (.int 0), some (.int (nI m)), some (.int (nI k + 1))] [] I1 (if f_hasB I1 32 (nI (ii + k)) 1 = 1 then am_uj L1 33 (nI (ii + k)).toNatClampNeg (f_cut (I1 32 1) (I1 34 (nI k).toNatClampNeg).toInt64) else L1)
                  have hp8 := (g_S_lt (kind := kind) (snow := G 44) (stones := G 26) (f := f) hW (fun _ q => q) hf8 (k + 1)).1
                  rw [if_pos hb, nI_1, nI_clamp (by omega), nI_clamp (by omega), h34b, h34 k (by omega), p.1, hla, f_cut_pl (am_lane hP.2.2.2.1) _ hp8]
                  refine ih (k + 1) _ _ (by omega) (by omega) (CR_sh (s := 3) hC1 (by omega) (fun _ _ => rfl) (fun c hc => am_uj_o hc) (hV.2.2.2.2 3 (by omega)) (fun u hu => ⟨rfl, rfl, by rw [o_upd_n hu, o_upd_n hu]⟩) p.1 p.2.1 (fun j hj => ?_)) h34b
                  rw [o_upd_e]
                  show am_uj L1 33 (ii + k) (nI (g_S G kind (G 44) (G 26) f (k + 1)).1).toInt64 33 j = o_cpy (g_trk G kind f) (it 3) 0 ii (k + 1) j
                  have p3 := p.2.2 j hj
                  rw [o_upd_e] at p3
                  unfold o_cpy at p3 ⊢
                  by_cases e : j = ii + k
                  · subst e
                    rw [am_uj_e, if_pos ⟨by omega, by omega⟩, show 0 + (ii + k - ii) = k by omega]
                    rfl
                  · rw [am_uj_n (fun z => e z.2), p3]
                    by_cases e2 : ii ≤ j ∧ j < ii + k
                    · rw [if_pos e2, if_pos ⟨e2.1, by omega⟩]
                    · rw [if_neg e2, if_neg (fun z => e2 ⟨z.1, by omega⟩)]
              show G2 68 [some (.ref 0), some (.int (nI kind)), some (.int (nI f)), some (.int (nI 3)), some (.int a), some (.int (nI ii)), some (.int (nI nn)), some (.ref 32), some (.int 0), some (.int (nI m)), some (.int (0))] [] I2 L2
              refine loop m 0 I2 L2 (by omega) (by omega) (CR_sh (s := 3) hC2 (by omega) (fun _ _ => rfl) (fun _ _ => rfl) (hV.2.2.2.2 3 (by omega)) (fun u hu => ⟨rfl, rfl, o_upd_n hu⟩) q2.1 q2.2.1 (fun j hj => ?_)) rfl
              rw [o_upd_e]
              unfold o_cpy
              rw [if_neg (by omega)]
              exact q2.2.2 j hj
            · rw [if_pos (fun z => hi (br.mp z))] at h
              have e : o_bars ln sz 3 a i (nI m) = -13 := by rw [o_bars_0 hl hla, if_neg hi]
              rw [e] at h
              exact am_nf (am_bn hi) (h I2 L2 hC2)
          · have e : o_bars ln sz 3 a i (nI (g_mn (g_T G kind (G 44) (G 26) f) nn)) = -12 := by unfold o_bars; rw [if_neg hl, if_pos hla]
            rw [e, if_pos (by decide)] at h
            rw [if_neg (fun z => hla (q.1.symm.trans z))]
            exact am_f (by decide) (h I L hC)
    · rw [if_pos hP] at h
      exact hG2 [] 100 0 _ _ _ _ (am_nf (am_bn hP) (h I L hC))
  · exact h.elim
