/-! THE LAW: road, its loops -/
def RW (I : am_I) (G : Nat → Nat) : Prop := RV I G ∧ G 43 = 7 ∧ G 44 = 0
theorem RW_fr {I I2 : am_I} {G : Nat → Nat} (h : RW I G) (e : I2 35 = I 35) : RW I2 G := by
  unfold RW RV VW at *
  rw [e]
  exact h
theorem RW_add {I : am_I} {W : Nat → Nat} {a b : Nat} {d : Int32} {mn mx : Nat} {w : Int32} {c0 c1 c13 c25 : Nat} (h : RW I W) (h12 : W 0 < 12) (ha : a < 8) (hb : b < 8) (hmn : mn = if a < b then a else b) (hmx : mx = if a < b then b else a) (hw : (d = 0 ∧ w = 0) ∨ (¬ d = 0 ∧ w = (1 : Int32) <<< (nI (W 0) &&& 31))) (e0 : c0 = 0) (e1 : c1 = 1 + W 0) (e13 : c13 = 13 + W 0) (e25 : c25 = 25) :
    RW (am_ui (am_ui (am_ui (am_ui I 35 c1 (nI mn)) 35 c13 (nI mx)) 35 c25 ((am_ui (am_ui I 35 c1 (nI mn)) 35 c13 (nI mx)) 35 c25 ||| w)) 35 c0 ((am_ui (am_ui (am_ui I 35 c1 (nI mn)) 35 c13 (nI mx)) 35 c25 ((am_ui (am_ui I 35 c1 (nI mn)) 35 c13 (nI mx)) 35 c25 ||| w)) 35 c0 + 1)) (g_add W a b (!decide (d = 0))) := by
  subst e0 e1 e13 e25
  obtain ⟨⟨⟨hle, h0, hk⟩, h25, h26⟩, h43, h44⟩ := h
  have g0 : g_add W a b (!decide (d = 0)) 0 = W 0 + 1 := by simp [g_add]
  have ge1 : ∀ k, k < W 0 → g_add W a b (!decide (d = 0)) (1 + k) = W (1 + k) ∧ g_add W a b (!decide (d = 0)) (13 + k) = W (13 + k) := fun k hk => by
    constructor <;> (unfold g_add; rw [if_neg (by omega), if_neg (by omega), if_neg (by omega), if_neg (by omega)])
  have gea : g_add W a b (!decide (d = 0)) (1 + W 0) = mn := by
    unfold g_add
    rw [if_neg (by omega), if_pos rfl, hmn]
  have geb : g_add W a b (!decide (d = 0)) (13 + W 0) = mx := by
    unfold g_add
    rw [if_neg (by omega), if_neg (by omega), if_pos rfl, hmx]
  have ge25 : g_add W a b (!decide (d = 0)) 25 = if (!decide (d = 0)) = true then g_set (W 25) (W 0) else W 25 := by
    unfold g_add
    rw [if_neg (by omega), if_neg (by omega), if_neg (by omega), if_pos rfl]
  have q : ∀ j, am_ui (am_ui (am_ui (am_ui I 35 (1 + W 0) (nI mn)) 35 (13 + W 0) (nI mx)) 35 25 ((am_ui (am_ui I 35 (1 + W 0) (nI mn)) 35 (13 + W 0) (nI mx)) 35 25 ||| w)) 35 0 ((am_ui (am_ui (am_ui I 35 (1 + W 0) (nI mn)) 35 (13 + W 0) (nI mx)) 35 25 ((am_ui (am_ui I 35 (1 + W 0) (nI mn)) 35 (13 + W 0) (nI mx)) 35 25 ||| w)) 35 0 + 1) 35 j = if j = 0 then I 35 0 + 1 else if j = 25 then I 35 25 ||| w else if j = 13 + W 0 then nI mx else if j = 1 + W 0 then nI mn else I 35 j := by
    intro j
    have n1 : ¬ (0 = 1 + W 0) := by omega
    have n2 : ¬ (0 = 13 + W 0) := by omega
    have n3 : ¬ (25 = 1 + W 0) := by omega
    have n4 : ¬ (25 = 13 + W 0) := by omega
    simp only [am_ui_r, true_and, n1, n2, n3, n4, if_false, show ¬ ((0 : Nat) = 25) from by omega]
  refine ⟨⟨⟨by rw [g0]; omega, by rw [q, if_pos rfl, g0, h0, nI_1], fun k hkk => ?_⟩, ?_, ?_⟩, by rw [g_add_hi h12 (by omega)]; exact h43, by rw [g_add_hi h12 (by omega)]; exact h44⟩
  · rw [g0] at hkk
    have zz : (13 + k = 1 + W 0) = False := eq_false (by omega)
    have z0 : (1 + k = 13 + W 0) = False := eq_false (by omega)
    have z2 : (1 + k = 0) = False := eq_false (by omega)
    have z3 : (1 + k = 25) = False := eq_false (by omega)
    have z4 : (13 + k = 0) = False := eq_false (by omega)
    have z5 : (13 + k = 25) = False := eq_false (by omega)
    rw [q (1 + k), q (13 + k)]
    simp only [zz, z0, z2, z3, z4, z5, if_false]
    rcases Nat.lt_or_ge k (W 0) with z | z
    · obtain ⟨k1, k2, k3, k4⟩ := hk k z
      rw [if_neg (show ¬ 1 + k = 1 + W 0 by omega), if_neg (show ¬ 13 + k = 13 + W 0 by omega), (ge1 k z).1, (ge1 k z).2]
      exact ⟨k1, k2, k3, k4⟩
    · have ek : k = W 0 := by omega
      subst ek
      rw [if_pos rfl, if_pos rfl, gea, geb]
      refine ⟨rfl, rfl, ?_, ?_⟩
      · rw [hmn]; split <;> omega
      · rw [hmx]; split <;> omega
  · rw [q, if_neg (by omega), if_pos rfl, ge25, h25]
    rcases hw with ⟨x, y⟩ | ⟨x, y⟩
    · subst y
      have e0 : nI (W 25) ||| (0 : Int32) = nI (W 25) := by rw [show (0 : Int32) = nI 0 from rfl, nI_or, Nat.or_zero]
      rw [e0]
      simp [x]
    · subst y
      rw [g_set_I _ (by omega)]
      simp [x]
  · rw [q, if_neg (by omega), if_neg (by omega), if_neg (by omega), if_neg (by omega), g_add_hi h12 (by omega)]
    exact h26
theorem CR_35 {I I2 : am_I} {L : am_J} {A : am_A} (h : CR I L A) (e : ∀ a : Nat, a ≠ 35 → I2 a = I a) : CR I2 L A := CR_fr h (fun a ha => e a (by omega)) (fun a ha => rfl)
theorem ui_35 {I : am_I} {k : Nat} {x : Int32} : ∀ a : Nat, a ≠ 35 → am_ui I 35 k x a = I a := fun a ha => am_ui_o ha
set_option maxHeartbeats 16000000 in
set_option maxRecDepth 100000 in
theorem rd_out {post : am_Po} {ce : Nat → Int32} {G : am_G} (hG : ∀ (cuts : List (Nat × List Nat)) (n pc : Nat) (ls : am_Lv) (st : List Value) (I : am_I) (L : am_J), am_ev am_S3 (sp_LW_road ce) true post k_LW_road cuts G n pc ls st I L → G pc ls st I L) {k : Nat} {W : Nat → Nat} {R : (Nat → Nat) × Bool × Nat × (Nat → Nat) × (Nat → Int32) × (Nat → Nat) × (Nat → Nat → Int64)} (hk : k < rd_tr ce) {I : am_I} {L : am_J} (hA : rd_A ce k = (W, R)) (hC : CR I L (W, R)) (hV : RW I W)
    (next : ∀ (I2 : am_I) (L2 : am_J), CR I2 L2 (rd_A ce (k + 1)) → RW I2 (rd_A ce (k + 1)).1 → G 51 [some (.ref 0), some (.ref 36), some (.int 6), some (.ref 35), some (.int (ce 0)), some (.int 1), some (.int (nI (rd_pl ce))), some (.int (nI (rd_tr ce))), some (.int (nI (k + 1))), none, none, none, none, none, none] [] I2 L2) : G 224 [some (.ref 0), some (.ref 36), some (.int 6), some (.ref 35), some (.int (ce 0)), some (.int 1), some (.int (nI (rd_pl ce))), some (.int (nI (rd_tr ce))), some (.int (nI k)), some (.int (rd_y ce k)), some (.int (nI (rd_a ce k))), some (.int (nI (rd_b ce k))), some (.int (rd_d ce k)), some (.int (nI (W 0))), none] [.int (o_way (W, R) (nI (rd_a ce k)) (nI (rd_b ce k)) (rd_d ce k)).1] I L := by
  obtain ⟨ha, hb, hab⟩ := rd_ab ce k
  have hWG : WG W := hC.V.1
  obtain ⟨⟨hW, h25, h26⟩, h43, h44⟩ := id hV
  obtain ⟨h12, h0, hw⟩ := id hW
  have eA : rd_A ce (k + 1) = (o_way (W, R) (nI (rd_a ce k)) (nI (rd_b ce k)) (rd_d ce k)).2 := by
    show (o_way (rd_A ce k) (nI (rd_a ce k)) (nI (rd_b ce k)) (rd_d ce k)).2 = _
    rw [hA]
  have s345 : ∀ (r : Int32) (I2 : am_I) (L2 : am_J), CR I2 L2 (rd_A ce (k + 1)) → RW I2 (rd_A ce (k + 1)).1 → G 345 [some (.ref 0), some (.ref 36), some (.int 6), some (.ref 35), some (.int (ce 0)), some (.int 1), some (.int (nI (rd_pl ce))), some (.int (nI (rd_tr ce))), some (.int (nI k)), some (.int (rd_y ce k)), some (.int (nI (rd_a ce k))), some (.int (nI (rd_b ce k))), some (.int (rd_d ce k)), some (.int (nI (W 0))), some (.int r)] [] I2 L2 := fun r I2 L2 g1 g2 => by
    refine hG [(51, [1, 1, 1, 1, 1, 1, 1, 1, 1, 0, 0, 0, 0, 0, 0])] 90 345 _ _ _ _ ?_
    show G 51 [some (.ref 0), some (.ref 36), some (.int 6), some (.ref 35), some (.int (ce 0)), some (.int 1), some (.int (nI (rd_pl ce))), some (.int (nI (rd_tr ce))), some (.int (nI k + 1)), none, none, none, none, none, none] [] I2 L2
    rw [nI_1]
    exact next I2 L2 g1 g2
  have ref : ∀ r : Int32, r < 0 → o_way (W, R) (nI (rd_a ce k)) (nI (rd_b ce k)) (rd_d ce k) = (r, (W, R)) → G 224 [some (.ref 0), some (.ref 36), some (.int 6), some (.ref 35), some (.int (ce 0)), some (.int 1), some (.int (nI (rd_pl ce))), some (.int (nI (rd_tr ce))), some (.int (nI k)), some (.int (rd_y ce k)), some (.int (nI (rd_a ce k))), some (.int (nI (rd_b ce k))), some (.int (rd_d ce k)), some (.int (nI (W 0))), none] [.int (o_way (W, R) (nI (rd_a ce k)) (nI (rd_b ce k)) (rd_d ce k)).1] I L := fun r hr e => by
    have e1 : (o_way (W, R) (nI (rd_a ce k)) (nI (rd_b ce k)) (rd_d ce k)).1 = r := by rw [e]
    rw [e1]
    exact hG [(345, [])] 90 224 _ _ _ _ (am_t hr (tw3 (fun post2 hp2 => And.intro rfl (Exists.intro (W, R) (And.intro hC (fun Ix Lx hx => hp2 Ix Lx hx)))) rfl (fun I1 L1 h1 e35 => am_nf e1 (am_t hr (s345 r I1 L1 (by rw [eA]; exact h1) (by rw [eA, e]; exact RW_fr hV e35))))))
  by_cases hj : g_wy W (rd_a ce k) (rd_b ce k) = 0
  · by_cases hf : W 0 = 12 ∨ (¬ rd_d ce k = 0 ∧ g_pc (W 25) 12 = 6)
    · exact ref (-3) (by decide) (ow_F ha hb hab hj hf)
    · have e := ow_N (R := R) ha hb hab hj hf
      have h12' : W 0 < 12 := by
        rcases Nat.lt_or_ge (W 0) 12 with z | z
        · exact z
        · exact absurd (Or.inl (by omega)) hf
      have e1 : (o_way (W, R) (nI (rd_a ce k)) (nI (rd_b ce k)) (rd_d ce k)).1 = nI (W 0) := by rw [e]
      have hr : ¬ nI (W 0) < 0 := nI_pos (by omega)
      have ei1 : (1 : Int32) + nI (W 0) = nI (1 + W 0) := by rw [show (1 : Int32) = nI 1 from rfl, nI_add]
      have ei13 : (13 : Int32) + nI (W 0) = nI (13 + W 0) := by rw [show (13 : Int32) = nI 13 from rfl, nI_add]
      have i1 : vp_in ((1 : Int32) + nI (W 0)) 51 := by rw [ei1]; exact am_vin (by omega) rfl
      have i13 : vp_in ((13 : Int32) + nI (W 0)) 51 := by rw [ei13]; exact am_vin (by omega) rfl
      have i0 : vp_in (0 : Int32) 51 := am_vin (show 0 < 51 by omega) rfl
      have i25 : vp_in (25 : Int32) 51 := am_vin (show 25 < 51 by omega) rfl
      have c1 : ((1 : Int32) + nI (W 0)).toNatClampNeg = 1 + W 0 := by rw [ei1, nI_clamp (by omega)]
      have c13 : ((13 : Int32) + nI (W 0)).toNatClampNeg = 13 + W 0 := by rw [ei13, nI_clamp (by omega)]
      rw [e1]
      have s277 : ∀ (I1 : am_I) (L1 : am_J), CR I1 L1 (o_way (W, R) (nI (rd_a ce k)) (nI (rd_b ce k)) (rd_d ce k)).2 → I1 35 = I 35 → G 277 [some (.ref 0), some (.ref 36), some (.int 6), some (.ref 35), some (.int (ce 0)), some (.int 1), some (.int (nI (rd_pl ce))), some (.int (nI (rd_tr ce))), some (.int (nI k)), some (.int (rd_y ce k)), some (.int (nI (rd_a ce k))), some (.int (nI (rd_b ce k))), some (.int (rd_d ce k)), some (.int (nI (W 0))), some (.int (nI (W 0)))] [] I1 L1 := fun I1 L1 h1 e35 => by
        by_cases hlt : rd_a ce k < rd_b ce k
        · rcases rd_d_b ce k with hd | hd
          · exact hG [(345, [])] 90 277 _ _ _ _ (am_nf (nI_lt hlt (by omega)) (And.intro i1 (am_nf (nI_lt hlt (by omega)) (And.intro i13 (And.intro i25 (am_t hd (And.intro i25 (And.intro i0 (And.intro i0 (s345 _ _ L1 (CR_35 (CR_35 (CR_35 (CR_35 (by rw [eA]; exact h1) ui_35) ui_35) ui_35) ui_35) (by rw [eA, e]; exact RW_add (RW_fr hV e35) h12' ha hb (by rw [if_pos hlt]) (by rw [if_pos hlt]) (Or.inl ⟨hd, rfl⟩) rfl c1 c13 rfl)))))))))))
          · have hd0 : ¬ rd_d ce k = 0 := by rw [hd]; decide
            exact hG [(345, [])] 90 277 _ _ _ _ (am_nf (nI_lt hlt (by omega)) (And.intro i1 (am_nf (nI_lt hlt (by omega)) (And.intro i13 (And.intro i25 (am_f hd0 (And.intro i25 (And.intro i0 (And.intro i0 (s345 _ _ L1 (CR_35 (CR_35 (CR_35 (CR_35 (by rw [eA]; exact h1) ui_35) ui_35) ui_35) ui_35) (by rw [eA, e]; exact RW_add (RW_fr hV e35) h12' ha hb (by rw [if_pos hlt]) (by rw [if_pos hlt]) (Or.inr ⟨hd0, rfl⟩) rfl c1 c13 rfl)))))))))))
        · rcases rd_d_b ce k with hd | hd
          · exact hG [(345, [])] 90 277 _ _ _ _ (am_nt (nI_nlt (by omega) (by omega)) (And.intro i1 (am_nt (nI_nlt (by omega) (by omega)) (And.intro i13 (And.intro i25 (am_t hd (And.intro i25 (And.intro i0 (And.intro i0 (s345 _ _ L1 (CR_35 (CR_35 (CR_35 (CR_35 (by rw [eA]; exact h1) ui_35) ui_35) ui_35) ui_35) (by rw [eA, e]; exact RW_add (RW_fr hV e35) h12' ha hb (by rw [if_neg hlt]) (by rw [if_neg hlt]) (Or.inl ⟨hd, rfl⟩) rfl c1 c13 rfl)))))))))))
          · have hd0 : ¬ rd_d ce k = 0 := by rw [hd]; decide
            exact hG [(345, [])] 90 277 _ _ _ _ (am_nt (nI_nlt (by omega) (by omega)) (And.intro i1 (am_nt (nI_nlt (by omega) (by omega)) (And.intro i13 (And.intro i25 (am_f hd0 (And.intro i25 (And.intro i0 (And.intro i0 (s345 _ _ L1 (CR_35 (CR_35 (CR_35 (CR_35 (by rw [eA]; exact h1) ui_35) ui_35) ui_35) ui_35) (by rw [eA, e]; exact RW_add (RW_fr hV e35) h12' ha hb (by rw [if_neg hlt]) (by rw [if_neg hlt]) (Or.inr ⟨hd0, rfl⟩) rfl c1 c13 rfl)))))))))))
      have s250 : G 250 [some (.ref 0), some (.ref 36), some (.int 6), some (.ref 35), some (.int (ce 0)), some (.int 1), some (.int (nI (rd_pl ce))), some (.int (nI (rd_tr ce))), some (.int (nI k)), some (.int (rd_y ce k)), some (.int (nI (rd_a ce k))), some (.int (nI (rd_b ce k))), some (.int (rd_d ce k)), some (.int (nI (W 0))), some (.int (nI (W 0)))] [] I L := hG [(277, [])] 90 250 _ _ _ _ (tw3 (fun post2 hp2 => And.intro rfl (Exists.intro (W, R) (And.intro hC (fun Ix Lx hx => hp2 Ix Lx hx)))) rfl (fun I1 L1 h1 e35 => am_nf e1 (am_f hr (s277 I1 L1 h1 e35))))
      rcases rd_d_b ce k with hd | hd
      · exact hG [(250, [])] 90 224 _ _ _ _ (am_f hr (am_t hd s250))
      · have hd0 : ¬ rd_d ce k = 0 := by rw [hd]; decide
        exact hG [(250, [])] 90 224 _ _ _ _ (am_f hr (am_f hd0 (And.intro i25 (Exists.intro (W 25) (And.intro h25 (am_nt (fun z => hf (Or.inr ⟨hd0, (nI_eq (b := 6) (by have := g_pc_le (W 25) 12; omega) (by omega)).mp z⟩)) s250))))))
  · exact ref (-2) (by decide) (ow_J ha hb hab hj)
theorem RW_ref {I : am_I} {W : Nat → Nat} {s w : Int32} {c26 c50 c51 : Nat} (h : RW I W) (e26 : c26 = 26) (e50 : c50 = 50) (e51 : c51 = 50) : RW (am_ui (am_ui (am_ui I 35 c26 (I 35 c26 ||| 0)) 35 c50 s) 35 c51 w) W := by
  subst e26 e50 e51
  obtain ⟨⟨⟨hle, h0, hk⟩, h25, h26⟩, h43, h44⟩ := h
  have q : ∀ j, j < 50 → am_ui (am_ui (am_ui I 35 26 (I 35 26 ||| 0)) 35 50 s) 35 50 w 35 j = I 35 j := fun j hj => by
    rw [am_uk (by omega), am_uk (by omega)]
    by_cases e : j = 26
    · subst e
      rw [am_ui_r, if_pos ⟨rfl, rfl⟩, h26, show (0 : Int32) = nI 0 from rfl, nI_or, Nat.or_zero]
    · rw [am_uk e]
  refine ⟨⟨⟨hle, by rw [q 0 (by omega)]; exact h0, fun k hkk => ?_⟩, by rw [q 25 (by omega)]; exact h25, by rw [q 26 (by omega)]; exact h26⟩, h43, h44⟩
  rw [q _ (by omega), q _ (by omega)]
  exact hk k hkk
theorem RW_stone {I : am_I} {W : Nat → Nat} {p s w : Nat} {c26 c27 c35 : Nat} (h : RW I W) (hp : p < 8) (e26 : c26 = 26) (e27 : c27 = 27 + p) (e35 : c35 = 35 + p) : RW (am_ui (am_ui (am_ui I 35 c26 (I 35 c26 ||| ((1 : Int32) <<< (nI p &&& 31)))) 35 c27 (nI s)) 35 c35 (nI w)) (g_put (g_put (g_put W (27 + p) s) (35 + p) w) 26 (g_set (W 26) p)) := by
  subst e26 e27 e35
  obtain ⟨⟨⟨hle, h0, hk⟩, h25, h26⟩, h43, h44⟩ := h
  have q : ∀ j, j < 26 → am_ui (am_ui (am_ui I 35 26 (I 35 26 ||| ((1 : Int32) <<< (nI p &&& 31)))) 35 (27 + p) (nI s)) 35 (35 + p) (nI w) 35 j = I 35 j := fun j hj => by
    rw [am_uk (by omega), am_uk (by omega), am_uk (by omega)]
  have g : ∀ j, (j < 26 ∨ 42 < j) → g_put (g_put (g_put W (27 + p) s) (35 + p) w) 26 (g_set (W 26) p) j = W j := fun j hj => by
    unfold g_put
    rw [if_neg (by omega), if_neg (by omega), if_neg (by omega)]
  refine ⟨⟨⟨by rw [g 0 (by omega)]; exact hle, by rw [q 0 (by omega), g 0 (by omega)]; exact h0, fun k hkk => ?_⟩, by rw [q 25 (by omega), g 25 (by omega)]; exact h25, ?_⟩, by rw [g 43 (by omega)]; exact h43, by rw [g 44 (by omega)]; exact h44⟩
  · rw [g 0 (by omega)] at hkk
    rw [q _ (by omega), q _ (by omega), g _ (by omega), g _ (by omega)]
    exact hk k hkk
  · rw [am_uk (by omega), am_uk (by omega), am_ui_r, if_pos ⟨rfl, rfl⟩, h26, g_set_I _ (by omega)]
    simp [g_put]
theorem g_pc_pos {m p : Nat} : ∀ n, p < n → 0 < g_pc (g_set m p) n := by
  intro n
  induction n with
  | zero => intro h; omega
  | succ n ih =>
    intro h
    simp only [g_pc]
    rcases Nat.lt_or_ge p n with z | z
    · have := ih z; omega
    · have : p = n := by omega
      subst this
      rw [g_set_t]
      simp
set_option maxHeartbeats 16000000 in
set_option maxRecDepth 100000 in
theorem rs_step {post : am_Po} {ce : Nat → Int32} {G : am_G} (hG : ∀ (cuts : List (Nat × List Nat)) (n pc : Nat) (ls : am_Lv) (st : List Value) (I : am_I) (L : am_J), am_ev am_S3 (sp_LW_road ce) true post k_LW_road cuts G n pc ls st I L → G pc ls st I L) {k : Nat} {W : Nat → Nat} {R : (Nat → Nat) × Bool × Nat × (Nat → Nat) × (Nat → Int32) × (Nat → Nat) × (Nat → Nat → Int64)} (hk : k < 8) (hx : 0 < (ce 0 >>> ((10 : Int32) &&& 31)) &&& 7) {I : am_I} {L : am_J} (hA : rs_A ce k = (W, R)) (hC : CR I L (W, R)) (hV : RW I W)
    (next : ∀ (I2 : am_I) (L2 : am_J), CR I2 L2 (rs_A ce (k + 1)) → RW I2 (rs_A ce (k + 1)).1 → G 354 [some (.ref 0), some (.ref 36), some (.int 6), some (.ref 35), some (.int (ce 0)), some (.int 1), some (.int (nI (rd_pl ce))), some (.int (nI (rd_tr ce))), some (.int (nI (k + 1))), none, none, none, none, none, none] [] I2 L2) : G 354 [some (.ref 0), some (.ref 36), some (.int 6), some (.ref 35), some (.int (ce 0)), some (.int 1), some (.int (nI (rd_pl ce))), some (.int (nI (rd_tr ce))), some (.int (nI k)), none, none, none, none, none, none] [] I L := by
  have hpl := rd_pl_b ce
  obtain ⟨⟨hW, h25, h26⟩, h43, h44⟩ := id hV
  obtain ⟨h12, h0, hw⟩ := id hW
  have hp : rs_p ce k < 8 := by have := nl_lt (rs_y ce k) (n := rd_pl ce) (by omega); unfold rs_p; omega
  have hs : rs_s ce k < 8 := by have := nl_lt (rs_y ce k >>> ((3 : Int32) &&& 31)) (n := rd_pl ce) (by omega); unfold rs_s; omega
  obtain ⟨w, hwd⟩ : ∃ w, w = nl (rs_y ce k >>> ((6 : Int32) &&& 31)) (W 0 + 1) := ⟨_, rfl⟩
  have hwl : w < W 0 + 1 := by rw [hwd]; exact nl_lt _ (by omega)
  have ew : rs_w ce (rs_A ce k) k = w := by unfold rs_w; rw [hA, hwd]
  have i0 : vp_in (0 : Int32) 51 := am_vin (show 0 < 51 by omega) rfl
  have i26 : vp_in (26 : Int32) 51 := am_vin (show 26 < 51 by omega) rfl
  have i50 : vp_in (50 : Int32) 51 := am_vin (show 50 < 51 by omega) rfl
  have ei27 : (27 : Int32) + nI (rs_p ce k) = nI (27 + rs_p ce k) := by rw [show (27 : Int32) = nI 27 from rfl, nI_add]
  have ei35 : (35 : Int32) + nI (rs_p ce k) = nI (35 + rs_p ce k) := by rw [show (35 : Int32) = nI 35 from rfl, nI_add]
  have i27 : vp_in ((27 : Int32) + nI (rs_p ce k)) 51 := by rw [ei27]; exact am_vin (by omega) rfl
  have i35 : vp_in ((35 : Int32) + nI (rs_p ce k)) 51 := by rw [ei35]; exact am_vin (by omega) rfl
  have c27 : ((27 : Int32) + nI (rs_p ce k)).toNatClampNeg = 27 + rs_p ce k := by rw [ei27, nI_clamp (by omega)]
  have c35 : ((35 : Int32) + nI (rs_p ce k)).toNatClampNeg = 35 + rs_p ce k := by rw [ei35, nI_clamp (by omega)]
  have s567 : ∀ (I2 : am_I) (L2 : am_J), CR I2 L2 (rs_A ce (k + 1)) → RW I2 (rs_A ce (k + 1)).1 → G 567 [some (.ref 0), some (.ref 36), some (.int 6), some (.ref 35), some (.int (ce 0)), some (.int 1), some (.int (nI (rd_pl ce))), some (.int (nI (rd_tr ce))), some (.int (nI k)), none, none, none, none, none, none] [] I2 L2 := fun I2 L2 g1 g2 => by
    refine hG [(354, [])] 90 567 _ _ _ _ ?_
    show G 354 [some (.ref 0), some (.ref 36), some (.int 6), some (.ref 35), some (.int (ce 0)), some (.int 1), some (.int (nI (rd_pl ce))), some (.int (nI (rd_tr ce))), some (.int (nI k + 1)), none, none, none, none, none, none] [] I2 L2
    rw [nI_1]
    exact next I2 L2 g1 g2
  have s485 : ¬ nl (rs_y ce k >>> ((10 : Int32) &&& 31)) 4 = 0 → ∀ v : Int32, v = (o_stone (W, R) (nI (rs_p ce k)) (nI (rs_s ce k)) (nI w)).1 → G 485 [some (.ref 0), some (.ref 36), some (.int 6), some (.ref 35), some (.int (ce 0)), some (.int 1), some (.int (nI (rd_pl ce))), some (.int (nI (rd_tr ce))), some (.int (nI k)), some (.int (rs_y ce k)), some (.int (nI (rs_p ce k))), some (.int (nI (rs_s ce k))), some (.int (nI w)), none, none] [.int v] I L := fun hz v ev => by
    have eA : rs_A ce (k + 1) = (o_stone (W, R) (nI (rs_p ce k)) (nI (rs_s ce k)) (nI w)).2 := by
      show (if nl (rs_y ce k >>> ((10 : Int32) &&& 31)) 4 = 0 then rs_A ce k else (o_stone (rs_A ce k) (nI (rs_p ce k)) (nI (rs_s ce k)) (nI (rs_w ce (rs_A ce k) k))).2) = _
      rw [if_neg hz, ew, hA]
    have ref : ∀ r : Int32, ¬ 0 < r → o_stone (W, R) (nI (rs_p ce k)) (nI (rs_s ce k)) (nI w) = (r, (W, R)) → G 485 [some (.ref 0), some (.ref 36), some (.int 6), some (.ref 35), some (.int (ce 0)), some (.int 1), some (.int (nI (rd_pl ce))), some (.int (nI (rd_tr ce))), some (.int (nI k)), some (.int (rs_y ce k)), some (.int (nI (rs_p ce k))), some (.int (nI (rs_s ce k))), some (.int (nI w)), none, none] [.int v] I L := fun r hr e => by
      have e1 : (o_stone (W, R) (nI (rs_p ce k)) (nI (rs_s ce k)) (nI w)).1 = v := ev.symm
      have hr2 : ¬ 0 < v := by rw [ev, e]; exact hr
      refine hG [(567, [1, 1, 1, 1, 1, 1, 1, 1, 1, 0, 0, 0, 0, 0, 0])] 120 485 _ _ _ _ (tw3 (fun post2 hp2 => And.intro rfl (Exists.intro (W, R) (And.intro hC (fun Ix Lx hx => hp2 Ix Lx hx)))) rfl (fun I1 L1 h1 e35 => am_nf e1 (And.intro i26 (am_nt hr2 (And.intro i26 (am_nt hr2 (And.intro i50 (am_nt hr2 (And.intro i50 (s567 _ L1 (CR_35 (CR_35 (CR_35 (by rw [eA]; exact h1) ui_35) ui_35) ui_35) (by rw [eA, e]; exact RW_ref (RW_fr hV e35) rfl rfl rfl)))))))))))
    by_cases hwz : w = W 0
    · exact ref (-1) (by decide) (os_B hwz)
    · by_cases hj : g_wy W (rs_p ce k) (rs_s ce k) = 0
      · exact ref (-2) (by decide) (os_J hp hs (by omega) h12 hj)
      · have e := os_N (R := R) hp hs (show w < W 0 by omega) h12 hj
        have e1 : (o_stone (W, R) (nI (rs_p ce k)) (nI (rs_s ce k)) (nI w)).1 = v := ev.symm
        have hr2 : 0 < v := by
          rw [ev, e]
          exact nI_lt (a := 0) (g_pc_pos 12 (by omega)) (by have := g_pc_le (g_set (W 26) (rs_p ce k)) 12; omega)
        refine hG [(567, [1, 1, 1, 1, 1, 1, 1, 1, 1, 0, 0, 0, 0, 0, 0])] 120 485 _ _ _ _ (tw3 (fun post2 hp2 => And.intro rfl (Exists.intro (W, R) (And.intro hC (fun Ix Lx hx => hp2 Ix Lx hx)))) rfl (fun I1 L1 h1 e35 => am_nf e1 (And.intro i26 (am_nf hr2 (And.intro i26 (am_nf hr2 (And.intro i27 (am_nf hr2 (And.intro i35 (s567 _ L1 (CR_35 (CR_35 (CR_35 (by rw [eA]; exact h1) ui_35) ui_35) ui_35) (by rw [eA, e]; exact RW_stone (RW_fr hV e35) hp rfl c27 c35)))))))))))
  have s445 : ¬ nl (rs_y ce k >>> ((10 : Int32) &&& 31)) 4 = 0 → G 445 [some (.ref 0), some (.ref 36), some (.int 6), some (.ref 35), some (.int (ce 0)), some (.int 1), some (.int (nI (rd_pl ce))), some (.int (nI (rd_tr ce))), some (.int (nI k)), some (.int (rs_y ce k)), some (.int (nI (rs_p ce k))), some (.int (nI (rs_s ce k))), some (.int (nI w)), none, none] [] I L := fun hz => by
    by_cases hwz : w = W 0
    · exact hG [(485, []), (457, [])] 90 445 _ _ _ _ (And.intro i0 (am_nf (show nI w = I 35 0 by rw [h0, hwz]) (s485 hz _ (by rw [os_B hwz]))))
    · have hn : ¬ nI w = I 35 0 := by rw [h0, nI_eq (by omega) (by omega)]; exact hwz
      by_cases hj : g_wy W (rs_p ce k) (rs_s ce k) = 0
      · have hneg : nI (g_wy W (rs_p ce k) (rs_s ce k)) - 1 < 0 := by rw [hj]; decide
        exact hG [(485, [])] 90 445 _ _ _ _ (And.intro i0 (am_nt hn (And.intro rfl (Exists.intro W (Exists.intro (rs_p ce k) (Exists.intro (rs_s ce k) (And.intro hW (And.intro rfl (And.intro rfl (And.intro hp (And.intro hs (am_nf hneg (s485 hz _ (by rw [os_J hp hs (show w < W 0 by omega) h12 hj]))))))))))))))
      · have hpos : ¬ nI (g_wy W (rs_p ce k) (rs_s ce k)) - 1 < 0 := by
          obtain ⟨m, hm⟩ : ∃ m, g_wy W (rs_p ce k) (rs_s ce k) = m + 1 := ⟨g_wy W (rs_p ce k) (rs_s ce k) - 1, by omega⟩
          have := g_wy_le W (rs_p ce k) (rs_s ce k)
          rw [hm, nI_pred]
          exact nI_pos (by omega)
        have eb : I 35 26 ||| ((1 : Int32) <<< (nI (rs_p ce k) &&& 31)) = nI (g_set (W 26) (rs_p ce k)) := by rw [h26, g_set_I _ (by omega)]
        exact hG [(485, [])] 90 445 _ _ _ _ (And.intro i0 (am_nt hn (And.intro rfl (Exists.intro W (Exists.intro (rs_p ce k) (Exists.intro (rs_s ce k) (And.intro hW (And.intro rfl (And.intro rfl (And.intro hp (And.intro hs (am_nt hpos (And.intro i26 (Exists.intro (g_set (W 26) (rs_p ce k)) (And.intro eb (s485 hz _ (by rw [os_N hp hs (show w < W 0 by omega) h12 hj])))))))))))))))))
  have ez : I 35 0 + 1 = nI (W 0 + 1) := by rw [h0, nI_1]
  have s398 : G 398 [some (.ref 0), some (.ref 36), some (.int 6), some (.ref 35), some (.int (ce 0)), some (.int 1), some (.int (nI (rd_pl ce))), some (.int (nI (rd_tr ce))), some (.int (nI k)), some (.int (rs_y ce k)), none, none, none, none, none] [] I L := by
    refine hG [(445, []), (567, [1, 1, 1, 1, 1, 1, 1, 1, 1, 0, 0, 0, 0, 0, 0])] 90 398 _ _ _ _ (Exists.intro (rd_pl ce) (And.intro (rfl) (And.intro (by omega) (And.intro (by omega) (Exists.intro (rd_pl ce) (And.intro (rfl) (And.intro (by omega) (And.intro (by omega) (And.intro i0 (Exists.intro (W 0 + 1) (And.intro (ez) (And.intro (by omega) (And.intro (by omega) (?_))))))))))))))
    rw [← hwd]
    by_cases hz : nl (rs_y ce k >>> ((10 : Int32) &&& 31)) 4 = 0
    · exact Exists.intro (4) (And.intro (rfl) (And.intro (by omega) (And.intro (by omega) (am_nt (by rw [hz]; decide) (s567 I L (by show CR I L (if nl (rs_y ce k >>> ((10 : Int32) &&& 31)) 4 = 0 then rs_A ce k else _); rw [if_pos hz, hA]; exact hC) (by show RW I (if nl (rs_y ce k >>> ((10 : Int32) &&& 31)) 4 = 0 then rs_A ce k else _).1; rw [if_pos hz, hA]; exact hV))))))
    · exact Exists.intro (4) (And.intro (rfl) (And.intro (by omega) (And.intro (by omega) (am_nf (show (0 : Int32) < nI _ from nI_lt (a := 0) (by omega) (by have := nl_lt (rs_y ce k >>> ((10 : Int32) &&& 31)) (n := 4) (by omega); omega)) (s445 hz)))))
  have e7 : (7 : Int32) + nI k / 2 = nI (7 + k / 2) := by
    rw [show (2 : Int32) = nI 2 from rfl, pk_div (by omega) (by omega) (by omega), show (7 : Int32) = nI 7 from rfl, nI_add]
  exact hG [(398, [])] 90 354 _ _ _ _ (am_nf (am_lt hk rfl) (am_f (by decide) (am_nf hx (And.intro (show ¬ (2 : Int32) = 0 by decide) (And.intro rfl (Exists.intro (7 + k / 2) (And.intro e7 (And.intro (by omega) (And.intro (show ¬ (2 : Int32) = 0 by decide) s398)))))))))
