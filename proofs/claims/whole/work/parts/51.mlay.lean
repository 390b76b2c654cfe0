/-! THE REFERENCE: the table of what is needed -/
theorem NE_st {I I2 : am_I} {G : Nat → Nat} {N : Nat → Nat → Nat} {c u v : Nat} (h : NE I G N c) (hu : u < 8) (hv : v ≤ 10000) (h1 : I2 11 (8 * c + u) = nI v) (h2 : ∀ j, ¬ j = 8 * c + u → I2 11 j = I 11 j) : NE I2 G (g_st N c u v) c := by
  intro c' p hc hca hp
  by_cases e : c' = c ∧ p = u
  · obtain ⟨rfl, rfl⟩ := e
    rw [g_st_e]
    exact ⟨h1, hv⟩
  · have e2 : g_st N c u v c' p = N c' p := if_neg e
    rw [e2, h2 _ (fun z => e ⟨by omega, by omega⟩)]
    exact h c' p hc hca hp
def NX (I I0 : am_I) : Prop := ∀ a : Nat, a ≠ 11 → I a = I0 a
def T_MD_layNeeds : am_Sp := fun vs I L post => match vs with
  | [.ref o] => o = 0 ∧ ∃ G, WG G ∧ RM I 0 G ∧ ∀ (I2 : am_I) (N : Nat → Nat → Nat), LW I2 G → TH I2 G → NE I2 G N 0 → NLo G N 0 → NUp G N 0 → (∀ a : Nat, a ≠ 0 → a ≠ 7 → a ≠ 11 → a ≠ 12 → I2 a = I a) → (∀ k : Nat, k ≠ 23 → I2 0 k = I 0 k) → post none I2 L
  | _ => False
def sp_MD_layNeeds : Nat → am_Sp := fun i => match i with
  | 158 => T_MD_layWays
  | 188 => T_MD_layThrees
  | 191 => T_MD_needBy
  | _ => am_no
set_option maxRecDepth 100000 in
set_option maxHeartbeats 4000000 in
theorem ok_MD_layNeeds : am_Ok am_SM sp_MD_layNeeds false k_MD_layNeeds 5 T_MD_layNeeds := by
  intro vs I L post h
  unfold T_MD_layNeeds at h
  split at h
  · rename_i o
    obtain ⟨rfl, G, hW, hM, h⟩ := h
    refine ⟨Nat.le_of_ble_eq_true rfl, fun G2 hG2 => ?_⟩
    have hal := (g_al_le hW).1
    have h12 := hW.1
    have h43 : G 43 < 8 := hW.2.2.2.2.2.2.2.2.1
    refine hG2 [(15, [1, 1, 0, 0, 0]), (21, [1, 1, 1, 0, 0]), (64, [1, 1, 1, 0, 0]), (72, [1, 1, 1, 1, 0]), (111, []), (140, [])] 100 0 _ _ _ _ (And.intro (rfl) (Exists.intro (G) (And.intro (hW) (And.intro (hM) (fun J1 g7 go => ?_)))))
    refine And.intro (rfl) (Exists.intro (G) (And.intro (hW) (And.intro (RM_fr hM (go 1 (by omega))) (fun J gT gA go2 gz => ?_))))
    have hLW : LW J G := fun a b ha hb => by rw [go2 7 (by omega) (by omega)]; exact g7 a b ha hb
    have hJ : ∀ a : Nat, a ≠ 0 → a ≠ 7 → a ≠ 11 → a ≠ 12 → J a = I a := fun a a0 a7 a11 a12 => (go2 a a0 a12).trans (go a a7)
    have hJ0 : ∀ k : Nat, k ≠ 23 → J 0 k = I 0 k := fun k hk => (gz k hk).trans (by rw [go 0 (by omega)])
    have h : ∀ (I2 : am_I) (N : Nat → Nat → Nat), NX I2 J → NE I2 G N 0 → NLo G N 0 → NUp G N 0 → post none I2 L := fun I2 N hx hn hl hu => h I2 N (fun a b ha hb => by rw [hx 7 (by omega)]; exact hLW a b ha hb) (fun k hk => by rw [hx 12 (by omega)]; exact gT k hk) hn hl hu (fun a a0 a7 a11 a12 => (hx a a11).trans (hJ a a0 a7 a11 a12)) (fun k hk => by rw [hx 0 (by omega)]; exact hJ0 k hk)
    have hM : RM J 0 G := RM_fr hM (hJ 1 (by omega) (by omega) (by omega) (by omega))
    clear g7 go go2 gz hJ hJ0
    have outer : ∀ n (I1 : am_I) (N : Nat → Nat → Nat), n ≤ g_al G → NX I1 J → NE I1 G N n → NLo G N n → NUp G N n → G2 15 [some (.ref 0), some (.int (nI n - 1)), none, none, none] [] I1 L := by
      intro n
      induction n with
      | zero =>
        intro I1 N hn hx hNE hlo hup
        exact hG2 [] 100 15 _ _ _ _ (am_t (by decide) (h I1 N hx hNE hlo hup))
      | succ n ih =>
        intro I1 N hn1 hx hNE hlo hup
        have hn : n < g_al G := by omega
        rw [nI_pred]
        -- the passes
        have pass : ∀ m (I1 : am_I) (N : Nat → Nat → Nat), g_sm (N n) < m → NX I1 J → NE I1 G N n → N n (G 43) = 0 → NLo G N n → NUp G N (n + 1) → ∀ t : Int32, ¬ t = 0 → G2 64 [some (.ref 0), some (.int (nI n)), some (.int (t)), none, none] [] I1 L := by
          intro m
          induction m with
          | zero => intro I1 N hm; omega
          | succ m ih2 =>
            intro I1 N0 hm hx hNE h0 hlo hup t ht
            have inner : ∀ d k (I1 : am_I) (N : Nat → Nat → Nat) (t : Int32), 64 - k = d → k ≤ 64 → NX I1 J → NE I1 G N n → N n (G 43) = 0 → NLo G N n → NUp G N (n + 1) → ((t = 0 ∧ (∀ j, j < k → ¬ j / 8 = G 43 → N n (j / 8) ≤ g_nb G N (j / 8) (j % 8) n)) ∨ (¬ t = 0 ∧ g_sm (N n) < g_sm (N0 n))) → g_sm (N n) ≤ g_sm (N0 n) → G2 72 [some (.ref 0), some (.int (nI n)), some (.int (t)), some (.int (nI k)), none] [] I1 L := by
              intro d
              induction d with
              | zero =>
                intro k I1 N t hd hk hx hNE h0 hlo hup hor hsm
                have e : k = 64 := by omega
                subst e
                refine hG2 [(15, [1, 1, 0, 0, 0]), (21, [1, 1, 1, 0, 0]), (64, [1, 1, 1, 0, 0]), (72, [1, 1, 1, 1, 0]), (111, []), (140, [])] 100 72 _ _ _ _ (am_nt (am_nlt (Nat.le_refl 64) rfl) ?_)
                rcases hor with ⟨rfl, hf⟩ | ⟨ht, hlt⟩
                · -- nothing has changed
                  have hupn : NUp G N n := g_fix hW hn h0 (fun p hp => (hNE n p (Nat.le_refl n) hn hp).2) hup (fun p q hp hq hne => by
                    have := hf (8 * p + q) (by omega)
                    rw [show (8 * p + q) / 8 = p by omega, show (8 * p + q) % 8 = q by omega] at this
                    exact this hne)
                  show G2 64 [some (.ref 0), some (.int (nI n)), some (.int (0)), none, none] [] I1 L
                  refine hG2 [(15, [1, 1, 0, 0, 0]), (21, [1, 1, 1, 0, 0]), (64, [1, 1, 1, 0, 0]), (72, [1, 1, 1, 1, 0]), (111, []), (140, [])] 100 64 _ _ _ _ (am_t rfl ?_)
                  show G2 15 [some (.ref 0), some (.int (nI n + -1)), none, none, none] [] I1 L
                  rw [show nI n + (-1 : Int32) = nI n - 1 from (Int32.sub_eq_add_neg (nI n) 1).symm]
                  exact ih I1 N (by omega) hx hNE hlo hupn
                · exact ih2 I1 N (by omega) hx hNE h0 hlo hup t ht
              | succ d ih3 =>
                intro k I1 N t hd hk hx hNE h0 hlo hup hor hsm
                have e1 : I1 1 = J 1 := hx 1 (by omega)
                have w43 : I1 1 (43 : Int32).toNatClampNeg = nI (G 43) := by rw [e1]; exact RM_i hM 43 (by omega)
                have LW1 : LW I1 G := fun a b ha hb => by rw [hx 7 (by omega)]; exact hLW a b ha hb
                have TH1 : TH I1 G := fun k hk => by rw [hx 12 (by omega)]; exact gT k hk
                have e8 : nI k / (8 : Int32) = nI (k / 8) := by rw [show (8 : Int32) = nI 8 from rfl, pk_div (by omega) (by omega) (by omega)]
                have e8r : nI k - nI k / (8 : Int32) * 8 = nI (k % 8) := by rw [show (8 : Int32) = nI 8 from rfl, pk_rem (by omega) (by omega) (by omega)]
                have hu : k / 8 < 8 := by omega
                have hq : k % 8 < 8 := by omega
                obtain ⟨u, hku⟩ : ∃ u, k / 8 = u := ⟨_, rfl⟩
                obtain ⟨q, hkq⟩ : ∃ q, k % 8 = q := ⟨_, rfl⟩
                rw [hku] at e8 hu
                rw [hkq] at e8r hq
                have au := am_n8 (c := n) (p := u) (by omega) hu
                have nu := hNE n u (Nat.le_refl n) hn hu
                have au2 : ((8 : Int32) * nI n + nI k / 8).toNatClampNeg = 8 * n + u := by rw [e8]; exact au.1
                have av2 : vp_in ((8 : Int32) * nI n + nI k / 8) 5832 := by rw [e8]; exact au.2
                have next : ∀ (I3 : am_I) (N3 : Nat → Nat → Nat) (t3 x4 : Int32), NX I3 J → NE I3 G N3 n → N3 n (G 43) = 0 → NLo G N3 n → NUp G N3 (n + 1) → ((t3 = 0 ∧ (∀ j, j < k + 1 → ¬ j / 8 = G 43 → N3 n (j / 8) ≤ g_nb G N3 (j / 8) (j % 8) n)) ∨ (¬ t3 = 0 ∧ g_sm (N3 n) < g_sm (N0 n))) → g_sm (N3 n) ≤ g_sm (N0 n) → G2 192 [some (.ref 0), some (.int (nI n)), some (.int (t3)), some (.int (nI k)), some (.int (x4))] [] I3 L := by
                  intro I3 N3 t3 x4 hx3 hNE3 h03 hlo3 hup3 hor3 hsm3
                  refine hG2 [(15, [1, 1, 0, 0, 0]), (21, [1, 1, 1, 0, 0]), (64, [1, 1, 1, 0, 0]), (72, [1, 1, 1, 1, 0]), (111, []), (140, [])] 100 192 _ _ _ _ ?_
                  show G2 72 [some (.ref 0), some (.int (nI n)), some (.int (t3)), some (.int (nI k + 1)), none] [] I3 L
                  rw [nI_1]
                  exact ih3 (k + 1) I3 N3 t3 (by omega) (by omega) hx3 hNE3 h03 hlo3 hup3 hor3 hsm3
                -- behind the test of 'more'
                have put : ∀ (need : Nat) (t3 : Int32), need ≤ 10000 → (u = G 43 → need = 0) → (¬ u = G 43 → need = g_nb G N u q n) → ((t3 = 0 ∧ t = 0 ∧ ¬ need < N n u) ∨ (¬ t3 = 0 ∧ (¬ t = 0 ∨ need < N n u))) → G2 140 [some (.ref 0), some (.int (nI n)), some (.int (t3)), some (.int (nI k)), some (.int (nI need))] [] I1 L := by
                  intro need t3 hle hhome hoth ht3
                  by_cases hlt : need < N n u
                  · have hne : ¬ u = G 43 := fun z => by rw [z, h0] at hlt; omega
                    refine hG2 [(15, [1, 1, 0, 0, 0]), (21, [1, 1, 1, 0, 0]), (64, [1, 1, 1, 0, 0]), (72, [1, 1, 1, 1, 0]), (111, []), (140, []), (192, [])] 100 140 _ _ _ _ (And.intro (by decide) (And.intro (by decide) (And.intro av2 (am_nf (by rw [au2, nu.1]; exact nI_lt hlt (by omega)) (And.intro av2 ?_)))))
                    show G2 192 [some (.ref 0), some (.int (nI n)), some (.int (t3)), some (.int (nI k)), some (.int (nI need))] [] (am_ui I1 11 ((8 : Int32) * nI n + nI k / 8).toNatClampNeg (nI need)) L
                    rw [au2]
                    have hlt2 : g_sm (g_st N n u need n) < g_sm (N n) := g_sm_lt hu (fun j hj => g_st_p hj) (by rw [g_st_e]; exact hlt)
                    refine next _ (g_st N n u need) t3 _ (fun a ha => by rw [am_ui_o ha]; exact hx a ha) (NE_st hNE hu hle am_ui_e (fun j hj => am_uk hj)) (by rw [g_st_p (fun z => hne z.symm)]; exact h0) (fun c' p hc hca hp h1 => ?_) (fun c' p hc hca hp => by rw [g_st_c (by omega)]; exact hup c' p hc hca hp) (Or.inr ⟨?_, by omega⟩) (by omega)
                    · by_cases e : c' = n ∧ p = u
                      · obtain ⟨rfl, rfl⟩ := e
                        rw [g_st_e, hoth hne]
                        exact g_nb_lo hW hn hu hq h1 hlo
                      · rw [show g_st N n u need c' p = N c' p from if_neg e]
                        exact hlo c' p hc hca hp h1
                    · rcases ht3 with ⟨_, _, z⟩ | ⟨z, _⟩
                      · exact absurd hlt z
                      · exact z
                  · refine hG2 [(15, [1, 1, 0, 0, 0]), (21, [1, 1, 1, 0, 0]), (64, [1, 1, 1, 0, 0]), (72, [1, 1, 1, 1, 0]), (111, []), (140, []), (192, [])] 100 140 _ _ _ _ (And.intro (by decide) (And.intro (by decide) (And.intro av2 (am_nt (by rw [au2, nu.1]; exact nI_nlt (by omega) (by omega)) (And.intro (by decide) (And.intro av2 (And.intro av2 ?_)))))))
                    show G2 192 [some (.ref 0), some (.int (nI n)), some (.int (t3)), some (.int (nI k)), some (.int (nI need))] [] (am_ui I1 11 ((8 : Int32) * nI n + nI k / 8).toNatClampNeg (I1 11 ((8 : Int32) * nI n + nI k / 8).toNatClampNeg)) L
                    rw [am_ui_id rfl]
                    refine next I1 N t3 _ hx hNE h0 hlo hup ?_ hsm
                    rcases ht3 with ⟨z1, z2, z3⟩ | ⟨z1, z2⟩
                    · left
                      refine ⟨z1, fun j hj hne => ?_⟩
                      rcases hor with ⟨_, hf⟩ | ⟨q1, _⟩
                      · by_cases e : j = k
                        · subst e
                          rw [hku, hkq, ← hoth (by rw [← hku]; exact hne)]
                          omega
                        · exact hf j (by omega) hne
                      · exact absurd z2 q1
                    · right
                      refine ⟨z1, ?_⟩
                      rcases hor with ⟨q1, _⟩ | ⟨_, q2⟩
                      · rcases z2 with w | w
                        · exact absurd q1 w
                        · exact absurd w hlt
                      · exact q2
                have test : ∀ need : Nat, need ≤ 10000 → (u = G 43 → need = 0) → (¬ u = G 43 → need = g_nb G N u q n) → G2 111 [some (.ref 0), some (.int (nI n)), some (.int (t)), some (.int (nI k)), some (.int (nI need))] [] I1 L := by
                  intro need hle hhome hoth
                  by_cases ht : t = 0
                  · by_cases hlt : need < N n u
                    · refine hG2 [(15, [1, 1, 0, 0, 0]), (21, [1, 1, 1, 0, 0]), (64, [1, 1, 1, 0, 0]), (72, [1, 1, 1, 1, 0]), (111, []), (140, [])] 100 111 _ _ _ _ (am_nf ht (And.intro (by decide) (And.intro av2 (am_nf (by rw [au2, nu.1]; exact nI_lt hlt (by omega)) ?_))))
                      exact put need 1 hle hhome hoth (Or.inr ⟨by decide, Or.inr hlt⟩)
                    · refine hG2 [(15, [1, 1, 0, 0, 0]), (21, [1, 1, 1, 0, 0]), (64, [1, 1, 1, 0, 0]), (72, [1, 1, 1, 1, 0]), (111, []), (140, [])] 100 111 _ _ _ _ (am_nf ht (And.intro (by decide) (And.intro av2 (am_nt (by rw [au2, nu.1]; exact nI_nlt (by omega) (by omega)) ?_))))
                      exact put need 0 hle hhome hoth (Or.inl ⟨rfl, ht, hlt⟩)
                  · refine hG2 [(15, [1, 1, 0, 0, 0]), (21, [1, 1, 1, 0, 0]), (64, [1, 1, 1, 0, 0]), (72, [1, 1, 1, 1, 0]), (111, []), (140, [])] 100 111 _ _ _ _ (am_nt ht ?_)
                    exact put need 1 hle hhome hoth (Or.inr ⟨by decide, Or.inl ht⟩)
                by_cases hh : u = G 43
                · refine hG2 [(15, [1, 1, 0, 0, 0]), (21, [1, 1, 1, 0, 0]), (64, [1, 1, 1, 0, 0]), (72, [1, 1, 1, 1, 0]), (111, []), (140, [])] 100 72 _ _ _ _ (am_nf (am_lt (show k < 64 by omega) rfl) (And.intro (by decide) (And.intro (am_vin (n := 43) (by decide) rfl) (am_nf (by rw [w43, e8, hh]) ?_))))
                  exact test 0 (by omega) (fun _ => rfl) (fun z => absurd hh z)
                · refine hG2 [(15, [1, 1, 0, 0, 0]), (21, [1, 1, 1, 0, 0]), (64, [1, 1, 1, 0, 0]), (72, [1, 1, 1, 1, 0]), (111, []), (140, [])] 100 72 _ _ _ _ (am_nf (am_lt (show k < 64 by omega) rfl) (And.intro (by decide) (And.intro (am_vin (n := 43) (by decide) rfl) (am_nt (by rw [w43, e8, nI_eq (by omega) (by omega)]; exact hh) (And.intro (by decide) (And.intro (by decide) (And.intro (rfl) (Exists.intro (G) (Exists.intro (N) (Exists.intro (u) (Exists.intro (q) (Exists.intro (n) (And.intro (hW) (And.intro (RM_fr hM e1) (And.intro (LW1) (And.intro (TH1) (And.intro (hNE) (And.intro (hn) (And.intro (hu) (And.intro (hq) (And.intro (e8) (And.intro (e8r) (And.intro (rfl) (?_))))))))))))))))))))))))
                  exact test (g_nb G N u q n) (g_nb_le _ _ _ _ _) (fun z => absurd z hh) (fun _ => rfl)
            refine hG2 [(15, [1, 1, 0, 0, 0]), (21, [1, 1, 1, 0, 0]), (64, [1, 1, 1, 0, 0]), (72, [1, 1, 1, 1, 0]), (111, []), (140, [])] 100 64 _ _ _ _ (am_f ht ?_)
            exact inner 64 0 I1 N0 0 (by omega) (by omega) hx hNE h0 hlo hup (Or.inl ⟨rfl, fun j hj => by omega⟩) (Nat.le_refl _)
        -- the start of a row
        have init : ∀ d k (I1 : am_I) (N : Nat → Nat → Nat), 8 - k = d → k ≤ 8 → NX I1 J → NE I1 G N (n + 1) → (∀ p, p < k → I1 11 (8 * n + p) = nI (N n p) ∧ N n p = if p = G 43 then 0 else 10000) → NLo G N (n + 1) → NUp G N (n + 1) → G2 21 [some (.ref 0), some (.int (nI n)), some (.int (nI k)), none, none] [] I1 L := by
          intro d
          induction d with
          | zero =>
            intro k I1 N hd hk hx hNE hr hlo hup
            have e : k = 8 := by omega
            subst e
            refine hG2 [(15, [1, 1, 0, 0, 0]), (21, [1, 1, 1, 0, 0]), (64, [1, 1, 1, 0, 0]), (72, [1, 1, 1, 1, 0]), (111, []), (140, [])] 100 21 _ _ _ _ (am_nt (am_nlt (Nat.le_refl 8) rfl) ?_)
            refine pass (g_sm (N n) + 1) I1 N (by omega) hx (fun c' p hc hca hp => ?_) (by rw [(hr _ h43).2, if_pos rfl]) (fun c' p hc hca hp h1 => ?_) hup 1 (by decide)
            · by_cases e : c' = n
              · subst e
                refine ⟨(hr p hp).1, ?_⟩
                rw [(hr p hp).2]
                split <;> omega
              · exact hNE c' p (by omega) hca hp
            · by_cases e : c' = n
              · subst e
                rw [(hr p hp).2]
                by_cases e2 : p = G 43
                · rw [if_pos e2, e2]
                  exact Nat.le_of_eq g_D_0
                · rw [if_neg e2]
                  exact g_d_le _ _ _
              · exact hlo c' p (by omega) hca hp h1
          | succ d ih2 =>
            intro k I1 N hd hk hx hNE hr hlo hup
            have e1 : I1 1 = J 1 := hx 1 (by omega)
            have w43 : I1 1 (43 : Int32).toNatClampNeg = nI (G 43) := by rw [e1]; exact RM_i hM 43 (by omega)
            have ak := am_n8 (c := n) (p := k) (by omega) (by omega)
            have nxt : ∀ v, v = (if k = G 43 then 0 else 10000) → G2 21 [some (.ref 0), some (.int (nI n)), some (.int (nI k + 1)), none, none] [] (am_ui I1 11 ((8 : Int32) * nI n + nI k).toNatClampNeg (nI v)) L := by
              intro v hv
              rw [nI_1, ak.1]
              refine ih2 (k + 1) _ (g_st N n k v) (by omega) (by omega) (fun a ha => by rw [am_ui_o ha]; exact hx a ha) (fun c' p hc hca hp => ?_) (fun p hp => ?_) (fun c' p hc hca hp h1 => ?_) (fun c' p hc hca hp => ?_)
              · rw [g_st_c (by omega), am_uk (by omega)]; exact hNE c' p hc hca hp
              · by_cases e : p = k
                · subst e; rw [g_st_e, am_ui_e]; exact ⟨rfl, hv⟩
                · rw [g_st_p e, am_uk (by omega)]; exact hr p (by omega)
              · rw [g_st_c (by omega)]; exact hlo c' p hc hca hp h1
              · rw [g_st_c (by omega)]; exact hup c' p hc hca hp
            by_cases e : k = G 43
            · refine hG2 [(15, [1, 1, 0, 0, 0]), (21, [1, 1, 1, 0, 0]), (64, [1, 1, 1, 0, 0]), (72, [1, 1, 1, 1, 0]), (111, []), (140, [])] 100 21 _ _ _ _ (am_nf (am_lt (show k < 8 by omega) rfl) (And.intro (am_vin (n := 43) (by decide) rfl) (am_nf (by rw [w43, e]) (And.intro ak.2 ?_))))
              exact nxt 0 (by rw [if_pos e])
            · refine hG2 [(15, [1, 1, 0, 0, 0]), (21, [1, 1, 1, 0, 0]), (64, [1, 1, 1, 0, 0]), (72, [1, 1, 1, 1, 0]), (111, []), (140, [])] 100 21 _ _ _ _ (am_nf (am_lt (show k < 8 by omega) rfl) (And.intro (am_vin (n := 43) (by decide) rfl) (am_nt (by rw [w43, nI_eq (by omega) (by omega)]; exact e) (And.intro ak.2 ?_))))
              exact nxt 10000 (by rw [if_neg e])
        refine hG2 [(15, [1, 1, 0, 0, 0]), (21, [1, 1, 1, 0, 0]), (64, [1, 1, 1, 0, 0]), (72, [1, 1, 1, 1, 0]), (111, []), (140, [])] 100 15 _ _ _ _ (am_f (nI_pos (by omega)) ?_)
        exact init 8 0 I1 N (by omega) (by omega) hx hNE (fun p hp => by omega) hlo hup
    show G2 15 [some (.ref 0), some (.int (J 0 23 - 1)), none, none, none] [] J L
    rw [gA]
    exact outer (g_al G) J (fun _ _ => 0) (Nat.le_refl _) (fun _ _ => rfl) (fun c' p hc hca => by omega) (fun c' p hc hca => by omega) (fun c' p hc hca => by omega)
  · exact h.elim
