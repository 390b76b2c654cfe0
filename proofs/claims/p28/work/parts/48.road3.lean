/-! THE LAW: road, whole -/
theorem snow_sub (c : Int32) (d : Nat) : (c &&& nI d) &&& (nI d ^^^ (-1)) = 0 := by
  apply b_ext
  intro i hi
  rw [b_and, b_and, bt_not hi, b_0]
  cases bt c i <;> cases bt (nI d) i <;> rfl
theorem oh_N {G : Nat → Nat} {R : (Nat → Nat) × Bool × Nat × (Nat → Nat) × (Nat → Int32) × (Nat → Nat) × (Nat → Nat → Int64)} {p : Nat} (hp : p < 8) : o_home (G, R) (nI p) = (nI (G 43), (g_put G 43 p, R)) := by
  unfold o_home; dsimp only
  rw [if_neg (fun q => q (am_pl8 hp)), nI_clamp (by omega)]
set_option maxHeartbeats 16000000 in
set_option maxRecDepth 100000 in
theorem rd_end {post : am_Po} {ce : Nat → Int32} {G : am_G} (hG : ∀ (cuts : List (Nat × List Nat)) (n pc : Nat) (ls : am_Lv) (st : List Value) (I : am_I) (L : am_J), am_ev am_S3 (sp_LW_road ce) true post k_LW_road cuts G n pc ls st I L → G pc ls st I L) {i8 : Int32} {W : Nat → Nat} {R : (Nat → Nat) × Bool × Nat × (Nat → Nat) × (Nat → Int32) × (Nat → Nat) × (Nat → Nat → Int64)} {I : am_I} {L : am_J} (hA : rs_A ce (rs_n ce) = (W, R)) (hC : CR I L (W, R)) (hV : RW I W)
    (hp : ∀ (I2 : am_I) (L2 : am_J), CR I2 L2 (o_road ce) → post (some (.int 1)) I2 L2) : G 573 [some (.ref 0), some (.ref 36), some (.int 6), some (.ref 35), some (.int (ce 0)), some (.int 1), some (.int (nI (rd_pl ce))), some (.int (nI (rd_tr ce))), some (.int i8), none, none, none, none, none, none] [] I L := by
  have hpl := rd_pl_b ce
  have hh : rd_h ce < 8 := by have := nl_lt (ce 0 >>> ((13 : Int32) &&& 31)) (n := rd_pl ce) (by omega); unfold rd_h; omega
  obtain ⟨⟨hW, h25, h26⟩, h43, h44⟩ := id hV
  have i43 : vp_in (43 : Int32) 51 := am_vin (show 43 < 51 by omega) rfl
  have i44 : vp_in (44 : Int32) 51 := am_vin (show 44 < 51 by omega) rfl
  have i25 : vp_in (25 : Int32) 51 := am_vin (show 25 < 51 by omega) rfl
  have eo : o_road ce = (o_snow (g_put W 43 (rd_h ce), R) (ce 11 &&& nI (W 25))).2 := by
    unfold o_road
    rw [hA, oh_N hh]
  have e25 : g_put W 43 (rd_h ce) 25 = W 25 := by simp [g_put]
  have e44 : g_put W 43 (rd_h ce) 44 = 0 := by simp [g_put, h44]
  have esn : (o_snow (g_put W 43 (rd_h ce), R) (ce 11 &&& nI (W 25))).1 = 0 := by
    unfold o_snow; dsimp only
    rw [e25, if_neg (fun q => q (snow_sub _ _)), e44]
    rfl
  have s625 : ∀ v : Int32, v = ce 11 &&& nI (W 25) → ∀ (I2 : am_I) (L2 : am_J), CR I2 L2 (g_put W 43 (rd_h ce), R) → G 625 [some (.ref 0), some (.ref 36), some (.int 6), some (.ref 35), some (.int (ce 0)), some (.int 1), some (.int (nI (rd_pl ce))), some (.int (nI (rd_tr ce))), some (.int i8), none, none, none, none, none, none] [.int v, .ref 0] I2 L2 := fun v ev I2 L2 h2 => by
    rw [ev]
    exact hG [] 90 625 _ _ _ _ (tw3 (fun post2 hp2 => And.intro rfl (Exists.intro ((g_put W 43 (rd_h ce), R)) (And.intro h2 (fun Ix Lx hx => hp2 Ix Lx hx)))) rfl (fun I3 L3 h3 e35 => am_nf esn (And.intro (Or.inr rfl) (hp I3 L3 (by rw [eo]; exact h3)))))
  have s612 : ∀ v : Int32, v = nI (rd_h ce) → ∀ (I2 : am_I) (L2 : am_J), CR I2 L2 (W, R) → I2 35 44 = ce 11 &&& nI (W 25) → G 612 [some (.ref 0), some (.ref 36), some (.int 6), some (.ref 35), some (.int (ce 0)), some (.int 1), some (.int (nI (rd_pl ce))), some (.int (nI (rd_tr ce))), some (.int i8), none, none, none, none, none, none] [.int v, .ref 0] I2 L2 := fun v ev I2 L2 h2 e2 => by
    rw [ev]
    exact hG [(625, [])] 90 612 _ _ _ _ (tw3 (fun post2 hp2 => And.intro rfl (Exists.intro ((W, R)) (And.intro h2 (fun Ix Lx hx => hp2 Ix Lx hx)))) rfl (fun I3 L3 h3 e35 => am_nf (show (o_home (W, R) (nI (rd_h ce))).1 = 7 by rw [oh_N hh, h43]; rfl) (And.intro i44 (s625 _ (show I3 35 44 = _ by rw [e35, e2]) I3 L3 (by rw [oh_N hh] at h3; exact h3)))))
  refine hG [(612, [])] 90 573 _ _ _ _ (Exists.intro (rd_pl ce) (And.intro (rfl) (And.intro (by omega) (And.intro (by omega) (?_)))))
  refine And.intro i43 (And.intro rfl (Exists.intro 11 (And.intro rfl (And.intro (by omega) (And.intro i25 (And.intro i44 (am_f (by decide) (And.intro i43 (s612 _ ?_ _ L (CR_35 (CR_35 hC ui_35) ui_35) ?_)))))))))
  · show am_ui (am_ui I 35 43 (nI (rd_h ce))) 35 44 _ 35 43 = nI (rd_h ce)
    rw [am_uk (by omega), am_ui_r, if_pos ⟨rfl, rfl⟩]
  · show am_ui (am_ui I 35 43 (nI (rd_h ce))) 35 44 (ce 11 &&& am_ui I 35 43 (nI (rd_h ce)) 35 25) 35 44 = ce 11 &&& nI (W 25)
    rw [am_ui_r, if_pos ⟨rfl, rfl⟩, am_uk (by omega), h25]
set_option maxHeartbeats 16000000 in
set_option maxRecDepth 100000 in
theorem ok_LW_road (ce : Nat → Int32) : am_Ok am_S3 (sp_LW_road ce) true k_LW_road 15 (T_LW_road ce) := by
  intro vs I L post h
  unfold T_LW_road at h
  split at h
  · rename_i o s d v
    obtain ⟨rfl, rfl, rfl, rfl, hC, hp⟩ := h
    refine ⟨Nat.le_of_ble_eq_true rfl, fun G hG => ?_⟩
    have htr := rd_tr_b ce
    have stones : ∀ n k : Nat, 8 - k = n → k ≤ 8 → 0 < (ce 0 >>> ((10 : Int32) &&& 31)) &&& 7 → ∀ (I : am_I) (L : am_J), CR I L (rs_A ce k) → RW I (rs_A ce k).1 → G 354 [some (.ref 0), some (.ref 36), some (.int 6), some (.ref 35), some (.int (ce 0)), some (.int 1), some (.int (nI (rd_pl ce))), some (.int (nI (rd_tr ce))), some (.int (nI k)), none, none, none, none, none, none] [] I L := by
      intro n
      induction n with
      | zero =>
        intro k hn hk hx I L h1 h2
        have e : k = 8 := by omega
        subst e
        obtain ⟨⟨W, R⟩, hA⟩ : ∃ A, rs_A ce 8 = A := ⟨_, rfl⟩
        rw [hA] at h1 h2
        exact hG [(573, [])] 90 354 _ _ _ _ (am_nt (by decide) (rd_end hG (by rw [show rs_n ce = 8 from if_pos hx]; exact hA) h1 h2 hp))
      | succ n ih =>
        intro k hn hk hx I L h1 h2
        obtain ⟨⟨W, R⟩, hA⟩ : ∃ A, rs_A ce k = A := ⟨_, rfl⟩
        rw [hA] at h1 h2
        exact rs_step hG (by omega) hx hA h1 h2 (fun I2 L2 g1 g2 => ih (k + 1) (by omega) (by omega) hx I2 L2 g1 g2)
    have s354 : ∀ (I : am_I) (L : am_J), CR I L (rs_A ce 0) → RW I (rs_A ce 0).1 → G 354 [some (.ref 0), some (.ref 36), some (.int 6), some (.ref 35), some (.int (ce 0)), some (.int 1), some (.int (nI (rd_pl ce))), some (.int (nI (rd_tr ce))), some (.int 0), none, none, none, none, none, none] [] I L := fun I L h1 h2 => by
      by_cases hx : 0 < (ce 0 >>> ((10 : Int32) &&& 31)) &&& 7
      · exact stones 8 0 (by omega) (by omega) hx I L h1 h2
      · obtain ⟨⟨W, R⟩, hA⟩ : ∃ A, rs_A ce 0 = A := ⟨_, rfl⟩
        rw [hA] at h1 h2
        exact hG [(573, [])] 90 354 _ _ _ _ (am_nf (by decide) (am_f (by decide) (am_nt hx (rd_end hG (by rw [show rs_n ce = 0 from if_neg hx]; exact hA) h1 h2 hp))))
    have ways : ∀ n k : Nat, rd_tr ce - k = n → k ≤ rd_tr ce → ∀ (I : am_I) (L : am_J), CR I L (rd_A ce k) → RW I (rd_A ce k).1 → G 51 [some (.ref 0), some (.ref 36), some (.int 6), some (.ref 35), some (.int (ce 0)), some (.int 1), some (.int (nI (rd_pl ce))), some (.int (nI (rd_tr ce))), some (.int (nI k)), none, none, none, none, none, none] [] I L := by
      intro n
      induction n with
      | zero =>
        intro k hn hk I L h1 h2
        have e : k = rd_tr ce := by omega
        subst e
        exact hG [(354, [])] 90 51 _ _ _ _ (am_nt (fun q => Int32.lt_irrefl q) (s354 I L h1 h2))
      | succ n ih =>
        intro k hn hk I L h1 h2
        obtain ⟨⟨W, R⟩, hA⟩ : ∃ A, rd_A ce k = A := ⟨_, rfl⟩
        rw [hA] at h1 h2
        exact rd_in hG (by omega) h2.1 (rd_out hG (by omega) hA h1 h2 (fun I2 L2 g1 g2 => ih (k + 1) (by omega) (by omega) I2 L2 g1 g2))
    have i0 : vp_in (0 : Int32) 51 := am_vin (show 0 < 51 by omega) rfl
    have i25 : vp_in (25 : Int32) 51 := am_vin (show 25 < 51 by omega) rfl
    have i26 : vp_in (26 : Int32) 51 := am_vin (show 26 < 51 by omega) rfl
    refine hG [(51, [])] 90 0 _ _ _ _ (And.intro rfl (Exists.intro 0 (And.intro rfl (And.intro (by omega) (And.intro i0 (And.intro i25 (And.intro i26 (Exists.intro (6) (And.intro (rfl) (And.intro (by omega) (And.intro (by omega) (Exists.intro (14) (And.intro (rfl) (And.intro (by omega) (And.intro (by omega) (?_))))))))))))))))
    show G 51 [some (.ref 0), some (.ref 36), some (.int 6), some (.ref 35), some (.int (ce 0)), some (.int 1), some (.int (nI 3 + nI (nl (ce 0) 6))), some (.int (nI 3 + nI (nl (ce 0 >>> ((4 : Int32) &&& 31)) 14))), some (.int (nI 0)), none, none, none, none, none, none] [] (am_ui (am_ui (am_ui I 35 0 0) 35 25 0) 35 26 0) L
    rw [nI_add, nI_add]
    refine ways (rd_tr ce) 0 (by omega) (by omega) _ L (CR_35 (CR_35 (CR_35 hC ui_35) ui_35) ui_35) ⟨⟨⟨Nat.zero_le _, ?_, fun k hk => absurd hk (Nat.not_lt_zero k)⟩, ?_, ?_⟩, rfl, rfl⟩
    · rw [am_uk (by omega), am_uk (by omega), am_ui_r, if_pos ⟨rfl, rfl⟩]; rfl
    · rw [am_uk (by omega), am_ui_r, if_pos ⟨rfl, rfl⟩]; rfl
    · rw [am_ui_r, if_pos ⟨rfl, rfl⟩]; rfl
  · exact h.elim
