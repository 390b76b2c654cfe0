/-! THE LAW: road -/
/-- nothing yet -/
def A_0 : am_A := (g_0 7, g_0 7, false, 0, fun _ => 0, fun _ => -1, fun _ => 0, fun _ _ => 0)
def T_one (X : am_Sp) : am_Sp := fun vs I L post => True ∧ am_upT am_f0 am_g0 X vs I L post
theorem tw3 {X : am_Sp} {t : List Value} {I : am_I} {L : am_J} {post : am_Po} {r : Int32} {A2 : am_A} (hX : ∀ post' : am_Po, (∀ (I2 : am_I) (L2 : am_J), CR I2 L2 A2 → post' (some (.int r)) I2 L2) → X (.ref 0 :: t) I L post') (ht : t.map (am_val am_f0) = t) (k : ∀ (I2 : am_I) (L2 : am_J), CR I2 L2 A2 → I2 35 = I 35 → post (some (.int r)) I2 L2) : T_one X (.ref 0 :: t) I L post := by
  refine ⟨trivial, .ref 0 :: t, by rw [List.map_cons, ht]; rfl, hX _ (fun I2 L2 h2 => k _ _ (CR_fr h2 (fun a ha => am_pt0 (by omega)) (fun a ha => am_pt0 (by omega))) (am_pt0n (by omega)))⟩
/-- a cell of the script (its place: 36) -/
def T_LW_cell (sc : Nat) (ce : Nat → Int32) : am_Sp := fun vs I L post => match vs with
  | [.ref r, .int k] => r = sc ∧ ∃ j : Nat, k = nI j ∧ j < 1000 ∧ post (some (.int (ce j))) I L
  | _ => False
/-- v holds what G tells -/
def RV (I : am_I) (G : Nat → Nat) : Prop := VW I G ∧ I 35 25 = nI (G 25) ∧ I 35 26 = nI (G 26)
section RDS
variable (ce : Nat → Int32)
def rd_pl : Nat := 3 + nl (ce 0) 6
def rd_tr : Nat := 3 + nl (ce 0 >>> ((4 : Int32) &&& 31)) 14
def rd_y (k : Nat) : Int32 := ce (1 + k / 3) >>> ((9 * (nI k - nI k / 3 * 3)) &&& 31)
def rd_a (k : Nat) : Nat := if k < rd_pl ce - 1 then k else nl (rd_y ce k) (rd_pl ce)
def rd_b (k : Nat) : Nat := if k < rd_pl ce - 1 ∧ 0 < (ce 0 >>> ((8 : Int32) &&& 31)) &&& 3 then k + 1 else (rd_a ce k + 1 + nl (rd_y ce k >>> ((3 : Int32) &&& 31)) (rd_pl ce - 1)) % rd_pl ce
def rd_d (k : Nat) : Int32 := if nl (rd_y ce k >>> ((6 : Int32) &&& 31)) 3 = 0 then 0 else 1
def rd_A : Nat → am_A
  | 0 => A_0
  | k + 1 => (o_way (rd_A k) (nI (rd_a ce k)) (nI (rd_b ce k)) (rd_d ce k)).2
def rs_y (k : Nat) : Int32 := ce (7 + k / 2) >>> ((14 * (nI k - nI k / 2 * 2)) &&& 31)
def rs_p (k : Nat) : Nat := nl (rs_y ce k) (rd_pl ce)
def rs_s (k : Nat) : Nat := nl (rs_y ce k >>> ((3 : Int32) &&& 31)) (rd_pl ce)
def rs_w (A : am_A) (k : Nat) : Nat := nl (rs_y ce k >>> ((6 : Int32) &&& 31)) (A.1 0 + 1)
def rs_A : Nat → am_A
  | 0 => rd_A ce (rd_tr ce)
  | k + 1 => if nl (rs_y ce k >>> ((10 : Int32) &&& 31)) 4 = 0 then rs_A k else (o_stone (rs_A k) (nI (rs_p ce k)) (nI (rs_s ce k)) (nI (rs_w ce (rs_A k) k))).2
def rs_n : Nat := if 0 < (ce 0 >>> ((10 : Int32) &&& 31)) &&& 7 then 8 else 0
def rd_h : Nat := nl (ce 0 >>> ((13 : Int32) &&& 31)) (rd_pl ce)
/-- the pass that the law tells -/
def o_road : am_A := (o_snow (o_home (rs_A ce (rs_n ce)) (nI (rd_h ce))).2 (ce 11 &&& nI ((rs_A ce (rs_n ce)).1 25))).2
theorem rd_pl_b : 3 ≤ rd_pl ce ∧ rd_pl ce ≤ 8 := by
  have := nl_lt (ce 0) (n := 6) (by omega)
  unfold rd_pl
  omega
theorem rd_tr_b : rd_tr ce ≤ 16 := by
  have := nl_lt (ce 0 >>> ((4 : Int32) &&& 31)) (n := 14) (by omega)
  unfold rd_tr
  omega
theorem rd_ab (k : Nat) : rd_a ce k < 8 ∧ rd_b ce k < 8 ∧ rd_a ce k ≠ rd_b ce k := by
  have hp := rd_pl_b ce
  have ha : rd_a ce k < rd_pl ce := by
    unfold rd_a
    split
    · omega
    · exact nl_lt _ (by omega)
  have ht := nl_lt (rd_y ce k >>> ((3 : Int32) &&& 31)) (n := rd_pl ce - 1) (by omega)
  unfold rd_b
  split
  · rename_i h
    have : rd_a ce k = k := by unfold rd_a; rw [if_pos h.1]
    omega
  · have hm := Nat.mod_lt (rd_a ce k + 1 + nl (rd_y ce k >>> ((3 : Int32) &&& 31)) (rd_pl ce - 1)) (show 0 < rd_pl ce by omega)
    refine ⟨by omega, by omega, ?_⟩
    rcases Nat.lt_or_ge (rd_a ce k + 1 + nl (rd_y ce k >>> ((3 : Int32) &&& 31)) (rd_pl ce - 1)) (rd_pl ce) with z | z
    · rw [Nat.mod_eq_of_lt z]; omega
    · rw [Nat.mod_eq_sub_mod z, Nat.mod_eq_of_lt (by omega)]; omega
theorem rd_d_b (k : Nat) : rd_d ce k = 0 ∨ rd_d ce k = 1 := by
  unfold rd_d
  split
  · exact Or.inl rfl
  · exact Or.inr rfl
end RDS
section OW
variable {G : Nat → Nat} {R : (Nat → Nat) × Bool × Nat × (Nat → Nat) × (Nat → Int32) × (Nat → Nat) × (Nat → Nat → Int64)} {a b : Nat} {d : Int32}
theorem ow_c (ha : a < 8) (hb : b < 8) (hab : a ≠ b) : ¬ (¬ (0 ≤ nI a ∧ nI a < 8) ∨ ¬ (0 ≤ nI b ∧ nI b < 8) ∨ nI a = nI b) := by
  rintro (q | q | q)
  · exact q (am_pl8 ha)
  · exact q (am_pl8 hb)
  · exact hab ((nI_eq (by omega) (by omega)).mp q)
theorem ow_J (ha : a < 8) (hb : b < 8) (hab : a ≠ b) (h : ¬ g_wy G a b = 0) : o_way (G, R) (nI a) (nI b) d = (-2, (G, R)) := by
  unfold o_way; dsimp only
  rw [if_neg (ow_c ha hb hab), nI_clamp (by omega), nI_clamp (by omega), if_pos h]
theorem ow_F (ha : a < 8) (hb : b < 8) (hab : a ≠ b) (h : g_wy G a b = 0) (hf : G 0 = 12 ∨ (¬ d = 0 ∧ g_pc (G 25) 12 = 6)) : o_way (G, R) (nI a) (nI b) d = (-3, (G, R)) := by
  unfold o_way; dsimp only
  rw [if_neg (ow_c ha hb hab), nI_clamp (by omega), nI_clamp (by omega), if_neg (fun q => q h), if_pos hf]
theorem ow_N (ha : a < 8) (hb : b < 8) (hab : a ≠ b) (h : g_wy G a b = 0) (hf : ¬ (G 0 = 12 ∨ (¬ d = 0 ∧ g_pc (G 25) 12 = 6))) : o_way (G, R) (nI a) (nI b) d = (nI (G 0), (g_add G a b (!decide (d = 0)), R)) := by
  unfold o_way; dsimp only
  rw [if_neg (ow_c ha hb hab), nI_clamp (by omega), nI_clamp (by omega), if_neg (fun q => q h), if_neg hf]
theorem os_c (ha : a < 8) (hb : b < 8) {w : Nat} (hw : w < G 0) (hG : G 0 ≤ 12) : ¬ (¬ (0 ≤ nI a ∧ nI a < 8) ∨ ¬ (0 ≤ nI b ∧ nI b < 8) ∨ ¬ (0 ≤ nI w ∧ nI w < nI (G 0))) := by
  rintro (q | q | q)
  · exact q (am_pl8 ha)
  · exact q (am_pl8 hb)
  · exact q ⟨nI_pos' (by omega), nI_lt hw (by omega)⟩
theorem os_B {w : Nat} (hw : w = G 0) : o_stone (G, R) (nI a) (nI b) (nI w) = (-1, (G, R)) := by
  unfold o_stone; dsimp only
  rw [if_pos (Or.inr (Or.inr (fun q => absurd q.2 (by rw [hw]; exact fun z => Int32.lt_irrefl z))))]
theorem os_J (ha : a < 8) (hb : b < 8) {w : Nat} (hw : w < G 0) (hG : G 0 ≤ 12) (h : g_wy G a b = 0) : o_stone (G, R) (nI a) (nI b) (nI w) = (-2, (G, R)) := by
  unfold o_stone; dsimp only
  rw [if_neg (os_c ha hb hw hG), nI_clamp (by omega), nI_clamp (by omega), if_pos h]
theorem os_N (ha : a < 8) (hb : b < 8) {w : Nat} (hw : w < G 0) (hG : G 0 ≤ 12) (h : ¬ g_wy G a b = 0) : o_stone (G, R) (nI a) (nI b) (nI w) = (nI (g_pc (g_set (G 26) a) 12), (g_put (g_put (g_put G (27 + a) b) (35 + a) w) 26 (g_set (G 26) a), R)) := by
  unfold o_stone; dsimp only
  rw [if_neg (os_c ha hb hw hG), nI_clamp (by omega), nI_clamp (by omega), nI_clamp (by omega), if_neg h]
end OW
theorem A0_g : (A_0.1 43 = 7 ∧ A_0.1 44 = 0) := ⟨rfl, rfl⟩
/-- home and snow stay while ways and stones come -/
theorem ow_43 (A : am_A) (a b d : Int32) : (o_way A a b d).2.1 43 = A.1 43 ∧ (o_way A a b d).2.1 44 = A.1 44 ∨ (o_way A a b d).2 = A ∨ ∃ x y e, (o_way A a b d).2.1 = g_add A.1 x y e := by
  obtain ⟨G, R⟩ := A
  unfold o_way; dsimp only
  split
  · exact Or.inr (Or.inl rfl)
  · split
    · exact Or.inr (Or.inl rfl)
    · split
      · exact Or.inr (Or.inl rfl)
      · exact Or.inr (Or.inr ⟨_, _, _, rfl⟩)
theorem g_add_hi {G : Nat → Nat} {a b : Nat} {d : Bool} (h12 : G 0 < 12) {i : Nat} (hi : 25 < i) : g_add G a b d i = G i := by
  unfold g_add
  rw [if_neg (by omega), if_neg (by omega), if_neg (by omega), if_neg (by omega)]
def sp_LW_road (ce : Nat → Int32) : Nat → am_Sp := fun i => match i with
  | 9 => T_LW_cell 36 ce
  | 15 => T_LW_low
  | 19 => T_LW_joined
  | 23 => T_LW_bits
  | 27 => T_one T_RP_way
  | 33 => T_one T_RP_stone
  | 37 => T_one T_RP_home
  | 40 => T_one T_RP_snow
  | _ => am_no
def T_LW_road (ce : Nat → Int32) : am_Sp := fun vs I L post => match vs with
  | [.ref o, .ref s, .int d, .ref v] => o = 0 ∧ s = 36 ∧ d = 6 ∧ v = 35 ∧ CR I L A_0 ∧ ∀ (I2 : am_I) (L2 : am_J), CR I2 L2 (o_road ce) → post (some (.int 1)) I2 L2
  | _ => False
set_option maxHeartbeats 16000000 in
set_option maxRecDepth 100000 in
theorem rd_in {post : am_Po} {ce : Nat → Int32} {G : am_G} (hG : ∀ (cuts : List (Nat × List Nat)) (n pc : Nat) (ls : am_Lv) (st : List Value) (I : am_I) (L : am_J), am_ev am_S3 (sp_LW_road ce) true post k_LW_road cuts G n pc ls st I L → G pc ls st I L) {k : Nat} {W : Nat → Nat} {R : (Nat → Nat) × Bool × Nat × (Nat → Nat) × (Nat → Int32) × (Nat → Nat) × (Nat → Nat → Int64)} (hk : k < rd_tr ce) {I : am_I} {L : am_J} (hV : RV I W)
    (kk : G 224 [some (.ref 0), some (.ref 36), some (.int 6), some (.ref 35), some (.int (ce 0)), some (.int 1), some (.int (nI (rd_pl ce))), some (.int (nI (rd_tr ce))), some (.int (nI k)), some (.int (rd_y ce k)), some (.int (nI (rd_a ce k))), some (.int (nI (rd_b ce k))), some (.int (rd_d ce k)), some (.int (nI (W 0))), none] [.int (o_way (W, R) (nI (rd_a ce k)) (nI (rd_b ce k)) (rd_d ce k)).1] I L) : G 51 [some (.ref 0), some (.ref 36), some (.int 6), some (.ref 35), some (.int (ce 0)), some (.int 1), some (.int (nI (rd_pl ce))), some (.int (nI (rd_tr ce))), some (.int (nI k)), none, none, none, none, none, none] [] I L := by
  have hp := rd_pl_b ce
  have ht := rd_tr_b ce
  obtain ⟨ha, hb, hab⟩ := rd_ab ce k
  obtain ⟨hW, h25, h26⟩ := hV
  obtain ⟨h12, h0, hw⟩ := id hW
  have ep : nI (rd_pl ce) - 1 = nI (rd_pl ce - 1) := by
    obtain ⟨m, hm⟩ : ∃ m, rd_pl ce = m + 1 := ⟨rd_pl ce - 1, by omega⟩
    rw [hm, nI_pred]; rfl
  have s224 : ∀ v : Int32, v = (o_way (W, R) (nI (rd_a ce k)) (nI (rd_b ce k)) (rd_d ce k)).1 → G 224 [some (.ref 0), some (.ref 36), some (.int 6), some (.ref 35), some (.int (ce 0)), some (.int 1), some (.int (nI (rd_pl ce))), some (.int (nI (rd_tr ce))), some (.int (nI k)), some (.int (rd_y ce k)), some (.int (nI (rd_a ce k))), some (.int (nI (rd_b ce k))), some (.int (rd_d ce k)), some (.int (nI (W 0))), none] [.int v] I L := fun v e => by rw [e]; exact kk
  have s177 : G 177 [some (.ref 0), some (.ref 36), some (.int 6), some (.ref 35), some (.int (ce 0)), some (.int 1), some (.int (nI (rd_pl ce))), some (.int (nI (rd_tr ce))), some (.int (nI k)), some (.int (rd_y ce k)), some (.int (nI (rd_a ce k))), some (.int (nI (rd_b ce k))), some (.int (rd_d ce k)), some (.int (nI (W 0))), none] [] I L := by
    by_cases hj : g_wy W (rd_a ce k) (rd_b ce k) = 0
    · have hneg : nI (g_wy W (rd_a ce k) (rd_b ce k)) - 1 < 0 := by rw [hj]; decide
      refine hG [(193, [])] 90 177 _ _ _ _ (And.intro rfl (Exists.intro W (Exists.intro (rd_a ce k) (Exists.intro (rd_b ce k) (And.intro hW (And.intro rfl (And.intro rfl (And.intro ha (And.intro hb (am_t hneg ?_))))))))))
      by_cases hf : W 0 = 12
      · refine hG [(224, [])] 90 193 _ _ _ _ (am_t (by rw [hf]; rfl) (s224 _ (by rw [ow_F ha hb hab hj (Or.inl hf)])))
      · have hn12 : ¬ nI (W 0) = 12 := fun z => hf ((nI_eq (b := 12) (by omega) (by omega)).mp z)
        rcases rd_d_b ce k with hd | hd
        · refine hG [(224, [])] 90 193 _ _ _ _ (am_f hn12 (am_t hd (s224 _ (by rw [ow_N ha hb hab hj (by rintro (q | q); exact hf q; exact q.1 hd)]))))
        · have hd0 : ¬ rd_d ce k = 0 := by rw [hd]; decide
          refine hG [(224, []), (217, []), (222, [])] 90 193 _ _ _ _ (am_f hn12 (am_f hd0 (And.intro (am_vin (show 25 < 51 by omega) rfl) (Exists.intro (W 25) (And.intro h25 (And.intro (fun z => ?_) (fun z => ?_)))))))
          · exact hG [(224, [])] 90 222 _ _ _ _ (s224 _ (by rw [ow_N ha hb hab hj (by
              rintro (q | q)
              · exact hf q
              · exact z (by rw [q.2]; rfl))]))
          · have h6 : g_pc (W 25) 12 = 6 := (nI_eq (b := 6) (by have := g_pc_le (W 25) 12; omega) (by omega)).mp z
            exact hG [(224, [])] 90 217 _ _ _ _ (s224 _ (by rw [ow_F ha hb hab hj (Or.inr ⟨hd0, h6⟩)]))
    · have hpos : ¬ nI (g_wy W (rd_a ce k) (rd_b ce k)) - 1 < 0 := by
        obtain ⟨m, hm⟩ : ∃ m, g_wy W (rd_a ce k) (rd_b ce k) = m + 1 := ⟨g_wy W (rd_a ce k) (rd_b ce k) - 1, by omega⟩
        have := g_wy_le W (rd_a ce k) (rd_b ce k)
        rw [hm, nI_pred]
        exact nI_pos (by omega)
      refine hG [(224, [])] 90 177 _ _ _ _ (And.intro rfl (Exists.intro W (Exists.intro (rd_a ce k) (Exists.intro (rd_b ce k) (And.intro hW (And.intro rfl (And.intro rfl (And.intro ha (And.intro hb (am_f hpos (s224 _ (by rw [ow_J ha hb hab hj]))))))))))))
  have s170 : ∀ v : Int32, v = rd_d ce k → G 170 [some (.ref 0), some (.ref 36), some (.int 6), some (.ref 35), some (.int (ce 0)), some (.int 1), some (.int (nI (rd_pl ce))), some (.int (nI (rd_tr ce))), some (.int (nI k)), some (.int (rd_y ce k)), some (.int (nI (rd_a ce k))), some (.int (nI (rd_b ce k))), none, none, none] [.int v] I L := fun v e => by
    rw [e]
    refine hG [(177, [])] 90 170 _ _ _ _ (And.intro (am_vin (show 0 < 51 by omega) rfl) ?_)
    show G 177 [some (.ref 0), some (.ref 36), some (.int 6), some (.ref 35), some (.int (ce 0)), some (.int 1), some (.int (nI (rd_pl ce))), some (.int (nI (rd_tr ce))), some (.int (nI k)), some (.int (rd_y ce k)), some (.int (nI (rd_a ce k))), some (.int (nI (rd_b ce k))), some (.int (rd_d ce k)), some (.int (I 35 0)), none] [] I L
    rw [h0]
    exact s177
  have s151 : ∀ v : Int32, v = nI (rd_b ce k) → G 151 [some (.ref 0), some (.ref 36), some (.int 6), some (.ref 35), some (.int (ce 0)), some (.int 1), some (.int (nI (rd_pl ce))), some (.int (nI (rd_tr ce))), some (.int (nI k)), some (.int (rd_y ce k)), some (.int (nI (rd_a ce k))), none, none, none, none] [.int v] I L := fun v e => by
    rw [e]
    have h3 := nl_lt (rd_y ce k >>> ((6 : Int32) &&& 31)) (n := 3) (by omega)
    by_cases hz : nl (rd_y ce k >>> ((6 : Int32) &&& 31)) 3 = 0
    · refine hG [(170, [])] 90 151 _ _ _ _ (Exists.intro (3) (And.intro (rfl) (And.intro (by omega) (And.intro (by omega) (?_)))))
      exact am_nt (by rw [hz]; decide) (s170 _ (by unfold rd_d; rw [if_pos hz]))
    · refine hG [(170, [])] 90 151 _ _ _ _ (Exists.intro (3) (And.intro (rfl) (And.intro (by omega) (And.intro (by omega) (?_)))))
      exact am_nf (show (0 : Int32) < nI _ from nI_lt (a := 0) (by omega) (by omega)) (s170 _ (by unfold rd_d; rw [if_neg hz]))
  have s132 : ¬ (k < rd_pl ce - 1 ∧ 0 < (ce 0 >>> ((8 : Int32) &&& 31)) &&& 3) → G 132 [some (.ref 0), some (.ref 36), some (.int 6), some (.ref 35), some (.int (ce 0)), some (.int 1), some (.int (nI (rd_pl ce))), some (.int (nI (rd_tr ce))), some (.int (nI k)), some (.int (rd_y ce k)), some (.int (nI (rd_a ce k))), none, none, none, none] [] I L := fun hc => by
    have hl := nl_lt (rd_y ce k >>> ((3 : Int32) &&& 31)) (n := rd_pl ce - 1) (by omega)
    refine hG [(151, [])] 90 132 _ _ _ _ (Exists.intro (rd_pl ce - 1) (And.intro (ep) (And.intro (by omega) (And.intro (by omega) (?_)))))
    refine And.intro (nI_ne0 (by omega) (by omega)) (s151 _ ?_)
    rw [nI_1, nI_add, pk_rem (by omega) (by omega) (by omega)]
    unfold rd_b
    rw [if_neg hc]
  have s104 : ∀ v : Int32, v = nI (rd_a ce k) → G 104 [some (.ref 0), some (.ref 36), some (.int 6), some (.ref 35), some (.int (ce 0)), some (.int 1), some (.int (nI (rd_pl ce))), some (.int (nI (rd_tr ce))), some (.int (nI k)), some (.int (rd_y ce k)), none, none, none, none, none] [.int v] I L := fun v e => by
    rw [e]
    by_cases hk1 : k < rd_pl ce - 1
    · by_cases hx : 0 < (ce 0 >>> ((8 : Int32) &&& 31)) &&& 3
      · exact hG [(132, []), (151, [])] 90 104 _ _ _ _ (am_nf (show nI k < nI (rd_pl ce) - 1 by rw [ep]; exact nI_lt hk1 (by omega)) (am_nf hx (s151 _ (by unfold rd_b; rw [if_pos ⟨hk1, hx⟩, nI_1]))))
      · exact hG [(132, []), (151, [])] 90 104 _ _ _ _ (am_nf (show nI k < nI (rd_pl ce) - 1 by rw [ep]; exact nI_lt hk1 (by omega)) (am_nt hx (s132 (fun q => hx q.2))))
    · exact hG [(132, []), (151, [])] 90 104 _ _ _ _ (am_nt (show ¬ nI k < nI (rd_pl ce) - 1 by rw [ep]; exact nI_nlt (by omega) (by omega)) (s132 (fun q => hk1 q.1)))
  have s83 : G 83 [some (.ref 0), some (.ref 36), some (.int 6), some (.ref 35), some (.int (ce 0)), some (.int 1), some (.int (nI (rd_pl ce))), some (.int (nI (rd_tr ce))), some (.int (nI k)), some (.int (rd_y ce k)), none, none, none, none, none] [] I L := by
    by_cases hk1 : k < rd_pl ce - 1
    · exact hG [(104, [])] 90 83 _ _ _ _ (am_nf (show nI k < nI (rd_pl ce) - 1 by rw [ep]; exact nI_lt hk1 (by omega)) (s104 _ (by unfold rd_a; rw [if_pos hk1])))
    · refine hG [(104, [])] 90 83 _ _ _ _ (am_nt (show ¬ nI k < nI (rd_pl ce) - 1 by rw [ep]; exact nI_nlt (by omega) (by omega)) (Exists.intro (rd_pl ce) (And.intro (rfl) (And.intro (by omega) (And.intro (by omega) (?_))))))
      exact s104 _ (by unfold rd_a; rw [if_neg hk1])
  have e1 : (1 : Int32) + nI k / 3 = nI (1 + k / 3) := by
    rw [show (3 : Int32) = nI 3 from rfl, pk_div (by omega) (by omega) (by omega), show (1 : Int32) = nI 1 from rfl, nI_add]
  exact hG [(83, [])] 90 51 _ _ _ _ (am_nf (nI_lt hk (by omega)) (am_f (by decide) (And.intro (show ¬ (3 : Int32) = 0 by decide) (And.intro rfl (Exists.intro (1 + k / 3) (And.intro e1 (And.intro (by omega) (And.intro (show ¬ (3 : Int32) = 0 by decide) s83))))))))
