/-! THE CLASS: the sheets -/
theorem am_alS {s o : Nat} (hs : s < 4) (ho : o = 26 + 2 * s) {f : Nat → Prop} (h : f o) : am_al [26, 28, 30, 32] 0 (nI s) f := by
  subst ho
  rcases (show s = 0 ∨ s = 1 ∨ s = 2 ∨ s = 3 by omega) with rfl | rfl | rfl | rfl
  · exact ⟨fun _ => h, fun q => absurd q (by decide), fun q => absurd q (by decide), fun q => absurd q (by decide), trivial⟩
  · exact ⟨fun q => absurd q (by decide), fun _ => h, fun q => absurd q (by decide), fun q => absurd q (by decide), trivial⟩
  · exact ⟨fun q => absurd q (by decide), fun q => absurd q (by decide), fun _ => h, fun q => absurd q (by decide), trivial⟩
  · exact ⟨fun q => absurd q (by decide), fun q => absurd q (by decide), fun q => absurd q (by decide), fun _ => h, trivial⟩
theorem o_upd_e {α : Type} {f : Nat → α} {k : Nat} {v : α} : o_upd f k v k = v := if_pos rfl
theorem o_upd_n {α : Type} {f : Nat → α} {k j : Nat} {v : α} (h : j ≠ k) : o_upd f k v j = f j := if_neg h
theorem CR_sh {I I2 : am_I} {L L2 : am_J} {G K : Nat → Nat} {hk : Bool} {tn : Nat} {tt : Nat → Nat} {ln ln' : Nat → Int32} {sz sz' : Nat → Nat} {it it' : Nat → Nat → Int64} (h : CR I L (G, K, hk, tn, tt, ln, sz, it)) {s : Nat} (hs : s < 4) (hI : ∀ a : Nat, a ≠ 26 + 2 * s → I2 a = I a) (hL : ∀ a : Nat, a ≠ 27 + 2 * s → L2 a = L a)
    (hl : (ln' s = -1 ∨ ln' s = 0 ∨ ln' s = 1 ∨ ln' s = 2) ∧ sz' s ≤ 24) (ho : ∀ u, u ≠ s → ln' u = ln u ∧ sz' u = sz u ∧ it' u = it u) (h1 : I2 (26 + 2 * s) 1 = ln' s) (h2 : ¬ ln' s = -1 → I2 (26 + 2 * s) 2 = nI (sz' s)) (h3 : ∀ j, j < 24 → L2 (27 + 2 * s) j = it' s j) : CR I2 L2 (G, K, hk, tn, tt, ln', sz', it') := by
  obtain ⟨⟨v1, v2, v3, v4, v5⟩, hR, hKr, hk7, hT, ⟨V, hS⟩, hSh⟩ := h
  refine ⟨⟨v1, v2, v3, v4, fun u hu => ?_⟩, RC_fr hR (fun a _ _ => hI a (by omega)) (hL 1 (by omega)), RC_fr hKr (fun a _ _ => hI a (by omega)) (hL 7 (by omega)), by rw [hI 0 (by omega)]; exact hk7, TP_fr hT (by rw [hI 19 (by omega)]) (hI 20 (by omega)), ⟨V, SC_fr hS (by rw [hI 22 (by omega)]) (hI 24 (by omega)) (hL 23 (by omega))⟩, fun u hu => ?_⟩
  · by_cases e : u = s
    · subst e; exact hl
    · rw [(ho u e).1, (ho u e).2.1]; exact v5 u hu
  · by_cases e : u = s
    · subst e; exact ⟨h1, h2, h3⟩
    · rw [(ho u e).1, (ho u e).2.1, (ho u e).2.2, hI (26 + 2 * u) (by omega), hL (27 + 2 * u) (by omega)]; exact hSh u hu
theorem am_i0 {i : Int32} : 0 ≤ i ↔ 0 ≤ i.toInt := Int32.le_iff_toInt_le
theorem am_has {I : am_I} {o z : Nat} {i n : Int32} (hz : z ≤ 24) (h : I o 2 = nI z) : f_hasB I o i n = am_b (0 ≤ i.toInt ∧ 0 ≤ n.toInt ∧ i.toInt + n.toInt ≤ (z : Int)) := by
  unfold f_hasB
  apply am_bc
  rw [h]
  by_cases hi : 0 ≤ i
  · by_cases hn : 0 ≤ n
    · obtain ⟨k, hk, rfl⟩ := nI_of (x := i) (Int32.not_lt.mpr hi)
      obtain ⟨m, hm, rfl⟩ := nI_of (x := n) (Int32.not_lt.mpr hn)
      rw [nI_toInt hk, nI_toInt hm, nI_leI hk (by omega)]
      by_cases hkz : k ≤ z
      · rw [pk_sub hkz, nI_leI hm (by omega)]
        constructor
        · rintro ⟨_, _, _, q⟩; omega
        · rintro ⟨_, _, q⟩; exact ⟨hi, hn, hkz, by omega⟩
      · constructor
        · rintro ⟨_, _, q, _⟩; exact absurd q hkz
        · rintro ⟨_, _, q⟩; omega
    · constructor
      · rintro ⟨_, q, _⟩; exact absurd q hn
      · rintro ⟨_, q, _⟩; exact absurd (am_i0.mpr q) hn
  · constructor
    · rintro ⟨q, _⟩; exact absurd q hi
    · rintro ⟨q, _⟩; exact absurd (am_i0.mpr q) hi
theorem o_bars_0 {ln : Nat → Int32} {sz : Nat → Nat} {s : Nat} {a i n : Int32} (h1 : ¬ ln s = -1) (h2 : ln s = a) : o_bars ln sz s a i n = if 0 ≤ i.toInt ∧ 0 ≤ n.toInt ∧ i.toInt + n.toInt ≤ sz s then 0 else -13 := by
  unfold o_bars
  rw [if_neg h1, if_neg (fun q => q h2)]
theorem am_lane {a : Int32} (h : 0 ≤ a ∧ a < 3) : a = 0 ∨ a = 1 ∨ a = 2 := by
  obtain ⟨j, hj, rfl⟩ := am_rng (n := 3) (by omega) h.1 h.2
  rcases (show j = 0 ∨ j = 1 ∨ j = 2 by omega) with rfl | rfl | rfl
  · exact Or.inl rfl
  · exact Or.inr (Or.inl rfl)
  · exact Or.inr (Or.inr rfl)
theorem am_lane_n {a : Int32} (h : 0 ≤ a ∧ a < 3) : ¬ a = -1 := by
  rcases am_lane h with rfl | rfl | rfl <;> decide
def T_SH_renew : am_Sp := fun vs I L post => match vs with
  | [.ref o, .int a, .int n] => am_isS o ∧ ∀ L2 : am_J, (∀ j, j < 24 → L2 (o + 1) j = 0) → (∀ c : Nat, c ≠ o + 1 → L2 c = L c) → post none (am_ui (am_ui I o 1 a) o 2 n) L2
  | _ => False
def sp_SH_renew : Nat → am_Sp := fun i => match i with
  | 26 => T_SH_become
  | _ => am_no
set_option maxRecDepth 100000 in
theorem ok_SH_renew : am_Ok am_SX sp_SH_renew false k_SH_renew 4 T_SH_renew := by
  intro vs I L post h
  unfold T_SH_renew at h
  split at h
  · rename_i o a n
    obtain ⟨hr, h⟩ := h
    refine ⟨Nat.le_of_ble_eq_true rfl, fun G2 hG2 => ?_⟩
    rcases hr with rfl | rfl | rfl | rfl
    · have loop : ∀ d k (L1 : am_J), 24 - k = d → k ≤ 24 → (∀ c : Nat, c ≠ 27 → L1 c = L c) → (∀ j, j < k → L1 27 j = 0) → G2 8 [some (.ref 26), some (.int a), some (.int n), some (.int (nI k))] [] (am_ui (am_ui I 26 1 a) 26 2 n) L1 := by
        intro d
        induction d with
        | zero =>
          intro k L1 hd hk ho hz
          have e : k = 24 := by omega
          subst e
          refine hG2 [(8, [])] 100 8 _ _ _ _ (am_nt (am_nlt (Nat.le_refl 24) rfl) ?_)
          exact h L1 hz ho
        | succ d ih =>
          intro k L1 hd hk ho hz
          refine hG2 [(8, [])] 100 8 _ _ _ _ (am_nf (am_lt (by omega : k < 24) rfl) (And.intro (am_vin (by omega) rfl) ?_))
          show G2 8 [some (.ref 26), some (.int a), some (.int n), some (.int (nI k + 1))] [] (am_ui (am_ui I 26 1 a) 26 2 n) (am_uj L1 27 (nI k).toNatClampNeg 0)
          rw [nI_1, nI_clamp (by omega)]
          refine ih (k + 1) _ (by omega) (by omega) (fun c hc => (am_uj_o hc).trans (ho c hc)) (fun j hj => ?_)
          rw [am_uj_r]
          split
          · rfl
          · rename_i q; exact hz j (by omega)
      exact hG2 [(8, [])] 100 0 _ _ _ _ (And.intro (Or.inl rfl) (loop 24 0 L (by omega) (by omega) (fun _ _ => rfl) (fun j hj => by omega)))
    · have loop : ∀ d k (L1 : am_J), 24 - k = d → k ≤ 24 → (∀ c : Nat, c ≠ 29 → L1 c = L c) → (∀ j, j < k → L1 29 j = 0) → G2 8 [some (.ref 28), some (.int a), some (.int n), some (.int (nI k))] [] (am_ui (am_ui I 28 1 a) 28 2 n) L1 := by
        intro d
        induction d with
        | zero =>
          intro k L1 hd hk ho hz
          have e : k = 24 := by omega
          subst e
          refine hG2 [(8, [])] 100 8 _ _ _ _ (am_nt (am_nlt (Nat.le_refl 24) rfl) ?_)
          exact h L1 hz ho
        | succ d ih =>
          intro k L1 hd hk ho hz
          refine hG2 [(8, [])] 100 8 _ _ _ _ (am_nf (am_lt (by omega : k < 24) rfl) (And.intro (am_vin (by omega) rfl) ?_))
          show G2 8 [some (.ref 28), some (.int a), some (.int n), some (.int (nI k + 1))] [] (am_ui (am_ui I 28 1 a) 28 2 n) (am_uj L1 29 (nI k).toNatClampNeg 0)
          rw [nI_1, nI_clamp (by omega)]
          refine ih (k + 1) _ (by omega) (by omega) (fun c hc => (am_uj_o hc).trans (ho c hc)) (fun j hj => ?_)
          rw [am_uj_r]
          split
          · rfl
          · rename_i q; exact hz j (by omega)
      exact hG2 [(8, [])] 100 0 _ _ _ _ (And.intro (Or.inr (Or.inl rfl)) (loop 24 0 L (by omega) (by omega) (fun _ _ => rfl) (fun j hj => by omega)))
    · have loop : ∀ d k (L1 : am_J), 24 - k = d → k ≤ 24 → (∀ c : Nat, c ≠ 31 → L1 c = L c) → (∀ j, j < k → L1 31 j = 0) → G2 8 [some (.ref 30), some (.int a), some (.int n), some (.int (nI k))] [] (am_ui (am_ui I 30 1 a) 30 2 n) L1 := by
        intro d
        induction d with
        | zero =>
          intro k L1 hd hk ho hz
          have e : k = 24 := by omega
          subst e
          refine hG2 [(8, [])] 100 8 _ _ _ _ (am_nt (am_nlt (Nat.le_refl 24) rfl) ?_)
          exact h L1 hz ho
        | succ d ih =>
          intro k L1 hd hk ho hz
          refine hG2 [(8, [])] 100 8 _ _ _ _ (am_nf (am_lt (by omega : k < 24) rfl) (And.intro (am_vin (by omega) rfl) ?_))
          show G2 8 [some (.ref 30), some (.int a), some (.int n), some (.int (nI k + 1))] [] (am_ui (am_ui I 30 1 a) 30 2 n) (am_uj L1 31 (nI k).toNatClampNeg 0)
          rw [nI_1, nI_clamp (by omega)]
          refine ih (k + 1) _ (by omega) (by omega) (fun c hc => (am_uj_o hc).trans (ho c hc)) (fun j hj => ?_)
          rw [am_uj_r]
          split
          · rfl
          · rename_i q; exact hz j (by omega)
      exact hG2 [(8, [])] 100 0 _ _ _ _ (And.intro (Or.inr (Or.inr (Or.inl rfl))) (loop 24 0 L (by omega) (by omega) (fun _ _ => rfl) (fun j hj => by omega)))
    · have loop : ∀ d k (L1 : am_J), 24 - k = d → k ≤ 24 → (∀ c : Nat, c ≠ 33 → L1 c = L c) → (∀ j, j < k → L1 33 j = 0) → G2 8 [some (.ref 32), some (.int a), some (.int n), some (.int (nI k))] [] (am_ui (am_ui I 32 1 a) 32 2 n) L1 := by
        intro d
        induction d with
        | zero =>
          intro k L1 hd hk ho hz
          have e : k = 24 := by omega
          subst e
          refine hG2 [(8, [])] 100 8 _ _ _ _ (am_nt (am_nlt (Nat.le_refl 24) rfl) ?_)
          exact h L1 hz ho
        | succ d ih =>
          intro k L1 hd hk ho hz
          refine hG2 [(8, [])] 100 8 _ _ _ _ (am_nf (am_lt (by omega : k < 24) rfl) (And.intro (am_vin (by omega) rfl) ?_))
          show G2 8 [some (.ref 32), some (.int a), some (.int n), some (.int (nI k + 1))] [] (am_ui (am_ui I 32 1 a) 32 2 n) (am_uj L1 33 (nI k).toNatClampNeg 0)
          rw [nI_1, nI_clamp (by omega)]
          refine ih (k + 1) _ (by omega) (by omega) (fun c hc => (am_uj_o hc).trans (ho c hc)) (fun j hj => ?_)
          rw [am_uj_r]
          split
          · rfl
          · rename_i q; exact hz j (by omega)
      exact hG2 [(8, [])] 100 0 _ _ _ _ (And.intro (Or.inr (Or.inr (Or.inr rfl))) (loop 24 0 L (by omega) (by omega) (fun _ _ => rfl) (fun j hj => by omega)))
  · exact h.elim
def T_RP_sheet : am_Sp := fun vs I L post => match vs with
  | [.ref o, .int s, .int a, .int n] => o = 0 ∧ ∃ A, CR I L A ∧ ∀ (I2 : am_I) (L2 : am_J), CR I2 L2 (o_sheet A s a n).2 → post (some (.int (o_sheet A s a n).1)) I2 L2
  | _ => False
def sp_RP_sheet : Nat → am_Sp := fun i => match i with
  | 103 => T_RP_isFrom0
  | 199 => T_SH_renew
  | _ => am_no
set_option maxRecDepth 100000 in
set_option maxHeartbeats 4000000 in
theorem ok_RP_sheet : am_Ok am_SX sp_RP_sheet false k_RP_sheet 4 T_RP_sheet := by
  intro vs I L post h
  unfold T_RP_sheet at h
  split at h
  · rename_i o s a n
    obtain ⟨rfl, A, hC, h⟩ := h
    refine ⟨Nat.le_of_ble_eq_true rfl, fun G2 hG2 => ?_⟩
    obtain ⟨G, K, hk, tn, tt, ln, sz, it⟩ := A
    obtain ⟨hV, hR, hKr, hk7, hT, hS, hSh⟩ := id hC
    dsimp only [o_sheet] at h
    by_cases hs : 0 ≤ s ∧ s < 4
    · by_cases ha : 0 ≤ a ∧ a < 3
      · by_cases hn : 24 < n
        · rw [if_pos (Or.inr (Or.inr hn))] at h
          exact hG2 [] 100 0 _ _ _ _ (am_f (am_bp hs) (am_f (am_bp ha) (am_nf hn (h I L hC))))
        · rw [if_neg (by rintro (q | q | q); exact q hs; exact q ha; exact hn q)] at h
          by_cases hn0 : n < 0
          · rw [if_pos hn0] at h
            exact hG2 [] 100 0 _ _ _ _ (am_f (am_bp hs) (am_f (am_bp ha) (am_nt hn (am_nf hn0 (h I L hC)))))
          · rw [if_neg hn0] at h
            obtain ⟨x, hx, rfl⟩ := am_rng (n := 4) (by omega) hs.1 hs.2
            obtain ⟨y, hy, rfl⟩ := am_rng (n := 25) (by omega) (Int32.not_lt.mp hn0) (Int32.lt_of_le_of_lt (Int32.not_lt.mp hn) (by decide))
            rw [nI_clamp (by omega), nI_clamp (by omega)] at h
            rcases (show x = 0 ∨ x = 1 ∨ x = 2 ∨ x = 3 by omega) with rfl | rfl | rfl | rfl
            · refine hG2 [] 100 0 _ _ _ _ (am_f (am_bp hs) (am_f (am_bp ha) (am_nt hn (am_nt hn0 (And.intro (am_vin (N := 4) (n := 0) (by omega) rfl) (And.intro rfl (And.intro (by decide) (am_alS (s := 0) (o := 26) (by omega) rfl (And.intro (Or.inl rfl) (fun L2 hz ho => ?_))))))))))
              refine h _ _ (CR_sh (s := 0) hC (by omega) (fun c hc => by rw [am_ui_o hc, am_ui_o hc]) ho ?_ (fun u hu => ⟨o_upd_n hu, o_upd_n hu, o_upd_n hu⟩) ?_ (fun _ => ?_) ?_)
              · rw [o_upd_e, o_upd_e]; exact ⟨Or.inr (am_lane ha), by omega⟩
              · rw [o_upd_e]; exact (am_uk (by omega)).trans am_ui_e
              · rw [o_upd_e]; exact am_ui_e
              · rw [o_upd_e]; exact hz
            · refine hG2 [] 100 0 _ _ _ _ (am_f (am_bp hs) (am_f (am_bp ha) (am_nt hn (am_nt hn0 (And.intro (am_vin (N := 4) (n := 1) (by omega) rfl) (And.intro rfl (And.intro (by decide) (am_alS (s := 1) (o := 28) (by omega) rfl (And.intro (Or.inr (Or.inl rfl)) (fun L2 hz ho => ?_))))))))))
              refine h _ _ (CR_sh (s := 1) hC (by omega) (fun c hc => by rw [am_ui_o hc, am_ui_o hc]) ho ?_ (fun u hu => ⟨o_upd_n hu, o_upd_n hu, o_upd_n hu⟩) ?_ (fun _ => ?_) ?_)
              · rw [o_upd_e, o_upd_e]; exact ⟨Or.inr (am_lane ha), by omega⟩
              · rw [o_upd_e]; exact (am_uk (by omega)).trans am_ui_e
              · rw [o_upd_e]; exact am_ui_e
              · rw [o_upd_e]; exact hz
            · refine hG2 [] 100 0 _ _ _ _ (am_f (am_bp hs) (am_f (am_bp ha) (am_nt hn (am_nt hn0 (And.intro (am_vin (N := 4) (n := 2) (by omega) rfl) (And.intro rfl (And.intro (by decide) (am_alS (s := 2) (o := 30) (by omega) rfl (And.intro (Or.inr (Or.inr (Or.inl rfl))) (fun L2 hz ho => ?_))))))))))
              refine h _ _ (CR_sh (s := 2) hC (by omega) (fun c hc => by rw [am_ui_o hc, am_ui_o hc]) ho ?_ (fun u hu => ⟨o_upd_n hu, o_upd_n hu, o_upd_n hu⟩) ?_ (fun _ => ?_) ?_)
              · rw [o_upd_e, o_upd_e]; exact ⟨Or.inr (am_lane ha), by omega⟩
              · rw [o_upd_e]; exact (am_uk (by omega)).trans am_ui_e
              · rw [o_upd_e]; exact am_ui_e
              · rw [o_upd_e]; exact hz
            · refine hG2 [] 100 0 _ _ _ _ (am_f (am_bp hs) (am_f (am_bp ha) (am_nt hn (am_nt hn0 (And.intro (am_vin (N := 4) (n := 3) (by omega) rfl) (And.intro rfl (And.intro (by decide) (am_alS (s := 3) (o := 32) (by omega) rfl (And.intro (Or.inr (Or.inr (Or.inr rfl))) (fun L2 hz ho => ?_))))))))))
              refine h _ _ (CR_sh (s := 3) hC (by omega) (fun c hc => by rw [am_ui_o hc, am_ui_o hc]) ho ?_ (fun u hu => ⟨o_upd_n hu, o_upd_n hu, o_upd_n hu⟩) ?_ (fun _ => ?_) ?_)
              · rw [o_upd_e, o_upd_e]; exact ⟨Or.inr (am_lane ha), by omega⟩
              · rw [o_upd_e]; exact (am_uk (by omega)).trans am_ui_e
              · rw [o_upd_e]; exact am_ui_e
              · rw [o_upd_e]; exact hz
      · rw [if_pos (Or.inr (Or.inl ha))] at h
        exact hG2 [] 100 0 _ _ _ _ (am_f (am_bp hs) (am_t (am_bn ha) (h I L hC)))
    · rw [if_pos (Or.inl hs)] at h
      exact hG2 [] 100 0 _ _ _ _ (am_t (am_bn hs) (h I L hC))
  · exact h.elim
def T_RP_drop : am_Sp := fun vs I L post => match vs with
  | [.ref o, .int s] => o = 0 ∧ ∃ A, CR I L A ∧ ∀ (I2 : am_I) (L2 : am_J), CR I2 L2 (o_drop A s).2 → post (some (.int (o_drop A s).1)) I2 L2
  | _ => False
def sp_RP_drop : Nat → am_Sp := fun i => match i with
  | 103 => T_RP_isFrom0
  | 203 => T_SH_isNothing
  | 208 => T_SH_become
  | _ => am_no
set_option maxRecDepth 100000 in
set_option maxHeartbeats 4000000 in
theorem ok_RP_drop : am_Ok am_SX sp_RP_drop false k_RP_drop 4 T_RP_drop := by
  intro vs I L post h
  unfold T_RP_drop at h
  split at h
  · rename_i o s
    obtain ⟨rfl, A, hC, h⟩ := h
    refine ⟨Nat.le_of_ble_eq_true rfl, fun G2 hG2 => ?_⟩
    obtain ⟨G, K, hk, tn, tt, ln, sz, it⟩ := A
    obtain ⟨hV, hR, hKr, hk7, hT, hS, hSh⟩ := id hC
    dsimp only [o_drop] at h
    by_cases hs : 0 ≤ s ∧ s < 4
    · rw [if_neg (fun q => q hs)] at h
      obtain ⟨x, hx, rfl⟩ := am_rng (n := 4) (by omega) hs.1 hs.2
      rw [nI_clamp (by omega)] at h
      rcases (show x = 0 ∨ x = 1 ∨ x = 2 ∨ x = 3 by omega) with rfl | rfl | rfl | rfl
      · have q : I 26 1 = ln 0 ∧ (¬ ln 0 = -1 → I 26 2 = nI (sz 0)) ∧ ∀ j, j < 24 → L 27 j = it 0 j := hSh 0 (by omega)
        by_cases hl : ln 0 = -1
        · rw [if_pos hl] at h
          exact hG2 [] 100 0 _ _ _ _ (am_nt (am_bp hs) (And.intro (am_vin (N := 4) (n := 0) (by omega) rfl) (And.intro rfl (And.intro (by decide) (am_alS (s := 0) (o := 26) (by omega) rfl (And.intro (Or.inl rfl) (am_f (am_bp (q.1.trans hl)) (h I L hC))))))))
        · rw [if_neg hl] at h
          refine hG2 [] 100 0 _ _ _ _ (am_nt (am_bp hs) (And.intro (am_vin (N := 4) (n := 0) (by omega) rfl) (And.intro rfl (And.intro (by decide) (am_alS (s := 0) (o := 26) (by omega) rfl (And.intro (Or.inl rfl) (am_t (am_bn (fun z => hl (q.1.symm.trans z))) (And.intro (Or.inl rfl) ?_))))))))
          show post (some (.int (I 26 2))) (am_ui (am_ui I 26 1 (-1)) 26 2 0) L
          rw [q.2.1 hl]
          refine h _ _ (CR_sh (s := 0) hC (by omega) (fun c hc => by rw [am_ui_o hc, am_ui_o hc]) (fun _ _ => rfl) ?_ (fun u hu => ⟨o_upd_n hu, rfl, rfl⟩) ?_ (fun z => ?_) q.2.2)
          · rw [o_upd_e]; exact ⟨Or.inl rfl, (hV.2.2.2.2 0 (by omega)).2⟩
          · rw [o_upd_e]; exact (am_uk (by omega)).trans am_ui_e
          · rw [o_upd_e] at z; exact absurd rfl z
      · have q : I 28 1 = ln 1 ∧ (¬ ln 1 = -1 → I 28 2 = nI (sz 1)) ∧ ∀ j, j < 24 → L 29 j = it 1 j := hSh 1 (by omega)
        by_cases hl : ln 1 = -1
        · rw [if_pos hl] at h
          exact hG2 [] 100 0 _ _ _ _ (am_nt (am_bp hs) (And.intro (am_vin (N := 4) (n := 1) (by omega) rfl) (And.intro rfl (And.intro (by decide) (am_alS (s := 1) (o := 28) (by omega) rfl (And.intro (Or.inr (Or.inl rfl)) (am_f (am_bp (q.1.trans hl)) (h I L hC))))))))
        · rw [if_neg hl] at h
          refine hG2 [] 100 0 _ _ _ _ (am_nt (am_bp hs) (And.intro (am_vin (N := 4) (n := 1) (by omega) rfl) (And.intro rfl (And.intro (by decide) (am_alS (s := 1) (o := 28) (by omega) rfl (And.intro (Or.inr (Or.inl rfl)) (am_t (am_bn (fun z => hl (q.1.symm.trans z))) (And.intro (Or.inr (Or.inl rfl)) ?_))))))))
          show post (some (.int (I 28 2))) (am_ui (am_ui I 28 1 (-1)) 28 2 0) L
          rw [q.2.1 hl]
          refine h _ _ (CR_sh (s := 1) hC (by omega) (fun c hc => by rw [am_ui_o hc, am_ui_o hc]) (fun _ _ => rfl) ?_ (fun u hu => ⟨o_upd_n hu, rfl, rfl⟩) ?_ (fun z => ?_) q.2.2)
          · rw [o_upd_e]; exact ⟨Or.inl rfl, (hV.2.2.2.2 1 (by omega)).2⟩
          · rw [o_upd_e]; exact (am_uk (by omega)).trans am_ui_e
          · rw [o_upd_e] at z; exact absurd rfl z
      · have q : I 30 1 = ln 2 ∧ (¬ ln 2 = -1 → I 30 2 = nI (sz 2)) ∧ ∀ j, j < 24 → L 31 j = it 2 j := hSh 2 (by omega)
        by_cases hl : ln 2 = -1
        · rw [if_pos hl] at h
          exact hG2 [] 100 0 _ _ _ _ (am_nt (am_bp hs) (And.intro (am_vin (N := 4) (n := 2) (by omega) rfl) (And.intro rfl (And.intro (by decide) (am_alS (s := 2) (o := 30) (by omega) rfl (And.intro (Or.inr (Or.inr (Or.inl rfl))) (am_f (am_bp (q.1.trans hl)) (h I L hC))))))))
        · rw [if_neg hl] at h
          refine hG2 [] 100 0 _ _ _ _ (am_nt (am_bp hs) (And.intro (am_vin (N := 4) (n := 2) (by omega) rfl) (And.intro rfl (And.intro (by decide) (am_alS (s := 2) (o := 30) (by omega) rfl (And.intro (Or.inr (Or.inr (Or.inl rfl))) (am_t (am_bn (fun z => hl (q.1.symm.trans z))) (And.intro (Or.inr (Or.inr (Or.inl rfl))) ?_))))))))
          show post (some (.int (I 30 2))) (am_ui (am_ui I 30 1 (-1)) 30 2 0) L
          rw [q.2.1 hl]
          refine h _ _ (CR_sh (s := 2) hC (by omega) (fun c hc => by rw [am_ui_o hc, am_ui_o hc]) (fun _ _ => rfl) ?_ (fun u hu => ⟨o_upd_n hu, rfl, rfl⟩) ?_ (fun z => ?_) q.2.2)
          · rw [o_upd_e]; exact ⟨Or.inl rfl, (hV.2.2.2.2 2 (by omega)).2⟩
          · rw [o_upd_e]; exact (am_uk (by omega)).trans am_ui_e
          · rw [o_upd_e] at z; exact absurd rfl z
      · have q : I 32 1 = ln 3 ∧ (¬ ln 3 = -1 → I 32 2 = nI (sz 3)) ∧ ∀ j, j < 24 → L 33 j = it 3 j := hSh 3 (by omega)
        by_cases hl : ln 3 = -1
        · rw [if_pos hl] at h
          exact hG2 [] 100 0 _ _ _ _ (am_nt (am_bp hs) (And.intro (am_vin (N := 4) (n := 3) (by omega) rfl) (And.intro rfl (And.intro (by decide) (am_alS (s := 3) (o := 32) (by omega) rfl (And.intro (Or.inr (Or.inr (Or.inr rfl))) (am_f (am_bp (q.1.trans hl)) (h I L hC))))))))
        · rw [if_neg hl] at h
          refine hG2 [] 100 0 _ _ _ _ (am_nt (am_bp hs) (And.intro (am_vin (N := 4) (n := 3) (by omega) rfl) (And.intro rfl (And.intro (by decide) (am_alS (s := 3) (o := 32) (by omega) rfl (And.intro (Or.inr (Or.inr (Or.inr rfl))) (am_t (am_bn (fun z => hl (q.1.symm.trans z))) (And.intro (Or.inr (Or.inr (Or.inr rfl))) ?_))))))))
          show post (some (.int (I 32 2))) (am_ui (am_ui I 32 1 (-1)) 32 2 0) L
          rw [q.2.1 hl]
          refine h _ _ (CR_sh (s := 3) hC (by omega) (fun c hc => by rw [am_ui_o hc, am_ui_o hc]) (fun _ _ => rfl) ?_ (fun u hu => ⟨o_upd_n hu, rfl, rfl⟩) ?_ (fun z => ?_) q.2.2)
          · rw [o_upd_e]; exact ⟨Or.inl rfl, (hV.2.2.2.2 3 (by omega)).2⟩
          · rw [o_upd_e]; exact (am_uk (by omega)).trans am_ui_e
          · rw [o_upd_e] at z; exact absurd rfl z
    · rw [if_pos hs] at h
      exact hG2 [] 100 0 _ _ _ _ (am_nf (am_bn hs) (h I L hC))
  · exact h.elim
def T_RP_item : am_Sp := fun vs I L post => match vs with
  | [.ref o, .int s, .int a, .int i, .long v] => o = 0 ∧ ∃ A, CR I L A ∧ ∀ (I2 : am_I) (L2 : am_J), CR I2 L2 (o_item A s a i v).2 → post (some (.int (o_item A s a i v).1)) I2 L2
  | _ => False
def sp_RP_item : Nat → am_Sp := fun i => match i with
  | 103 => T_RP_isFrom0
  | 181 => T_SH_refusal
  | 184 => T_SH_has
  | 195 => T_SH_put
  | _ => am_no
set_option maxRecDepth 100000 in
set_option maxHeartbeats 4000000 in
theorem ok_RP_item : am_Ok am_SX sp_RP_item false k_RP_item 8 T_RP_item := by
  intro vs I L post h
  unfold T_RP_item at h
  split at h
  · rename_i o s a i v
    obtain ⟨rfl, A, hC, h⟩ := h
    refine ⟨Nat.le_of_ble_eq_true rfl, fun G2 hG2 => ?_⟩
    obtain ⟨G, K, hk, tn, tt, ln, sz, it⟩ := A
    obtain ⟨hV, hR, hKr, hk7, hT, hS, hSh⟩ := id hC
    dsimp only [o_item] at h
    by_cases hs : 0 ≤ s ∧ s < 4
    · by_cases ha : 0 ≤ a ∧ a < 3
      · rw [if_neg (by rintro (q | q); exact q hs; exact q ha)] at h
        obtain ⟨x, hx, rfl⟩ := am_rng (n := 4) (by omega) hs.1 hs.2
        rw [nI_clamp (by omega)] at h
        rcases (show x = 0 ∨ x = 1 ∨ x = 2 ∨ x = 3 by omega) with rfl | rfl | rfl | rfl
        · have q : I 26 1 = ln 0 ∧ (¬ ln 0 = -1 → I 26 2 = nI (sz 0)) ∧ ∀ j, j < 24 → L 27 j = it 0 j := hSh 0 (by omega)
          refine hG2 [] 100 0 _ _ _ _ (am_f (am_bp hs) (am_nt (am_bp ha) (And.intro (am_vin (N := 4) (n := 0) (by omega) rfl) (And.intro rfl (And.intro (by decide) (am_alS (s := 0) (o := 26) (by omega) rfl (And.intro (Or.inl rfl) ?_)))))))
          by_cases hl : ln 0 = -1
          · have e : o_bars ln sz 0 a i 1 = -11 := by unfold o_bars; rw [if_pos hl]
            rw [e, if_pos (by decide)] at h
            rw [if_pos (q.1.trans hl)]
            exact am_f (by decide) (h I L hC)
          · rw [if_neg (fun z => hl (q.1.symm.trans z))]
            by_cases hla : ln 0 = a
            · rw [if_pos (q.1.trans hla)]
              refine am_t rfl (And.intro (Or.inl rfl) ?_)
              rw [o_bars_0 hl hla] at h
              rw [am_has (hV.2.2.2.2 0 (by omega)).2 (q.2.1 hl)]
              by_cases hi : 0 ≤ i.toInt ∧ 0 ≤ (1 : Int32).toInt ∧ i.toInt + (1 : Int32).toInt ≤ (sz 0 : Int)
              · rw [if_pos hi, if_neg (by decide)] at h
                refine am_nt (am_bp hi) (And.intro (Or.inl rfl) ?_)
                rw [am_has (hV.2.2.2.2 0 (by omega)).2 (q.2.1 hl)]
                have h24 := (hV.2.2.2.2 0 (by omega)).2
                have e1 : (1 : Int32).toInt = 1 := rfl
                refine And.intro (fun _ => vp_in_iff.mpr ⟨hi.1, by omega⟩) ?_
                show post (some (.int 1)) I (if am_b (0 ≤ i.toInt ∧ 0 ≤ (1 : Int32).toInt ∧ i.toInt + (1 : Int32).toInt ≤ (sz 0 : Int)) = 1 then am_uj L 27 i.toNatClampNeg (f_cut (I 26 1) v) else L)
                rw [if_pos (am_b1 hi), q.1, hla]
                refine h _ _ (CR_sh (s := 0) hC (by omega) (fun _ _ => rfl) (fun c hc => am_uj_o hc) (hV.2.2.2.2 0 (by omega)) (fun u hu => ⟨rfl, rfl, o_upd_n hu⟩) q.1 q.2.1 (fun j hj => ?_))
                rw [o_upd_e]
                show am_uj L 27 i.toNatClampNeg (f_cut a v) 27 j = o_upd (it 0) i.toNatClampNeg (f_cut a v) j
                by_cases e : j = i.toNatClampNeg
                · rw [e, o_upd_e]; exact am_uj_e
                · rw [o_upd_n e]; exact (am_uj_n (fun z => e z.2)).trans (q.2.2 j hj)
              · rw [if_neg hi, if_pos (by decide)] at h
                exact am_nf (am_bn hi) (h I L hC)
            · have e : o_bars ln sz 0 a i 1 = -12 := by unfold o_bars; rw [if_neg hl, if_pos hla]
              rw [e, if_pos (by decide)] at h
              rw [if_neg (fun z => hla (q.1.symm.trans z))]
              exact am_f (by decide) (h I L hC)
        · have q : I 28 1 = ln 1 ∧ (¬ ln 1 = -1 → I 28 2 = nI (sz 1)) ∧ ∀ j, j < 24 → L 29 j = it 1 j := hSh 1 (by omega)
          refine hG2 [] 100 0 _ _ _ _ (am_f (am_bp hs) (am_nt (am_bp ha) (And.intro (am_vin (N := 4) (n := 1) (by omega) rfl) (And.intro rfl (And.intro (by decide) (am_alS (s := 1) (o := 28) (by omega) rfl (And.intro (Or.inr (Or.inl rfl)) ?_)))))))
          by_cases hl : ln 1 = -1
          · have e : o_bars ln sz 1 a i 1 = -11 := by unfold o_bars; rw [if_pos hl]
            rw [e, if_pos (by decide)] at h
            rw [if_pos (q.1.trans hl)]
            exact am_f (by decide) (h I L hC)
          · rw [if_neg (fun z => hl (q.1.symm.trans z))]
            by_cases hla : ln 1 = a
            · rw [if_pos (q.1.trans hla)]
              refine am_t rfl (And.intro (Or.inr (Or.inl rfl)) ?_)
              rw [o_bars_0 hl hla] at h
              rw [am_has (hV.2.2.2.2 1 (by omega)).2 (q.2.1 hl)]
              by_cases hi : 0 ≤ i.toInt ∧ 0 ≤ (1 : Int32).toInt ∧ i.toInt + (1 : Int32).toInt ≤ (sz 1 : Int)
              · rw [if_pos hi, if_neg (by decide)] at h
                refine am_nt (am_bp hi) (And.intro (Or.inr (Or.inl rfl)) ?_)
                rw [am_has (hV.2.2.2.2 1 (by omega)).2 (q.2.1 hl)]
                have h24 := (hV.2.2.2.2 1 (by omega)).2
                have e1 : (1 : Int32).toInt = 1 := rfl
                refine And.intro (fun _ => vp_in_iff.mpr ⟨hi.1, by omega⟩) ?_
                show post (some (.int 1)) I (if am_b (0 ≤ i.toInt ∧ 0 ≤ (1 : Int32).toInt ∧ i.toInt + (1 : Int32).toInt ≤ (sz 1 : Int)) = 1 then am_uj L 29 i.toNatClampNeg (f_cut (I 28 1) v) else L)
                rw [if_pos (am_b1 hi), q.1, hla]
                refine h _ _ (CR_sh (s := 1) hC (by omega) (fun _ _ => rfl) (fun c hc => am_uj_o hc) (hV.2.2.2.2 1 (by omega)) (fun u hu => ⟨rfl, rfl, o_upd_n hu⟩) q.1 q.2.1 (fun j hj => ?_))
                rw [o_upd_e]
                show am_uj L 29 i.toNatClampNeg (f_cut a v) 29 j = o_upd (it 1) i.toNatClampNeg (f_cut a v) j
                by_cases e : j = i.toNatClampNeg
                · rw [e, o_upd_e]; exact am_uj_e
                · rw [o_upd_n e]; exact (am_uj_n (fun z => e z.2)).trans (q.2.2 j hj)
              · rw [if_neg hi, if_pos (by decide)] at h
                exact am_nf (am_bn hi) (h I L hC)
            · have e : o_bars ln sz 1 a i 1 = -12 := by unfold o_bars; rw [if_neg hl, if_pos hla]
              rw [e, if_pos (by decide)] at h
              rw [if_neg (fun z => hla (q.1.symm.trans z))]
              exact am_f (by decide) (h I L hC)
        · have q : I 30 1 = ln 2 ∧ (¬ ln 2 = -1 → I 30 2 = nI (sz 2)) ∧ ∀ j, j < 24 → L 31 j = it 2 j := hSh 2 (by omega)
          refine hG2 [] 100 0 _ _ _ _ (am_f (am_bp hs) (am_nt (am_bp ha) (And.intro (am_vin (N := 4) (n := 2) (by omega) rfl) (And.intro rfl (And.intro (by decide) (am_alS (s := 2) (o := 30) (by omega) rfl (And.intro (Or.inr (Or.inr (Or.inl rfl))) ?_)))))))
          by_cases hl : ln 2 = -1
          · have e : o_bars ln sz 2 a i 1 = -11 := by unfold o_bars; rw [if_pos hl]
            rw [e, if_pos (by decide)] at h
            rw [if_pos (q.1.trans hl)]
            exact am_f (by decide) (h I L hC)
          · rw [if_neg (fun z => hl (q.1.symm.trans z))]
            by_cases hla : ln 2 = a
            · rw [if_pos (q.1.trans hla)]
              refine am_t rfl (And.intro (Or.inr (Or.inr (Or.inl rfl))) ?_)
              rw [o_bars_0 hl hla] at h
              rw [am_has (hV.2.2.2.2 2 (by omega)).2 (q.2.1 hl)]
              by_cases hi : 0 ≤ i.toInt ∧ 0 ≤ (1 : Int32).toInt ∧ i.toInt + (1 : Int32).toInt ≤ (sz 2 : Int)
              · rw [if_pos hi, if_neg (by decide)] at h
                refine am_nt (am_bp hi) (And.intro (Or.inr (Or.inr (Or.inl rfl))) ?_)
                rw [am_has (hV.2.2.2.2 2 (by omega)).2 (q.2.1 hl)]
                have h24 := (hV.2.2.2.2 2 (by omega)).2
                have e1 : (1 : Int32).toInt = 1 := rfl
                refine And.intro (fun _ => vp_in_iff.mpr ⟨hi.1, by omega⟩) ?_
                show post (some (.int 1)) I (if am_b (0 ≤ i.toInt ∧ 0 ≤ (1 : Int32).toInt ∧ i.toInt + (1 : Int32).toInt ≤ (sz 2 : Int)) = 1 then am_uj L 31 i.toNatClampNeg (f_cut (I 30 1) v) else L)
                rw [if_pos (am_b1 hi), q.1, hla]
                refine h _ _ (CR_sh (s := 2) hC (by omega) (fun _ _ => rfl) (fun c hc => am_uj_o hc) (hV.2.2.2.2 2 (by omega)) (fun u hu => ⟨rfl, rfl, o_upd_n hu⟩) q.1 q.2.1 (fun j hj => ?_))
                rw [o_upd_e]
                show am_uj L 31 i.toNatClampNeg (f_cut a v) 31 j = o_upd (it 2) i.toNatClampNeg (f_cut a v) j
                by_cases e : j = i.toNatClampNeg
                · rw [e, o_upd_e]; exact am_uj_e
                · rw [o_upd_n e]; exact (am_uj_n (fun z => e z.2)).trans (q.2.2 j hj)
              · rw [if_neg hi, if_pos (by decide)] at h
                exact am_nf (am_bn hi) (h I L hC)
            · have e : o_bars ln sz 2 a i 1 = -12 := by unfold o_bars; rw [if_neg hl, if_pos hla]
              rw [e, if_pos (by decide)] at h
              rw [if_neg (fun z => hla (q.1.symm.trans z))]
              exact am_f (by decide) (h I L hC)
        · have q : I 32 1 = ln 3 ∧ (¬ ln 3 = -1 → I 32 2 = nI (sz 3)) ∧ ∀ j, j < 24 → L 33 j = it 3 j := hSh 3 (by omega)
          refine hG2 [] 100 0 _ _ _ _ (am_f (am_bp hs) (am_nt (am_bp ha) (And.intro (am_vin (N := 4) (n := 3) (by omega) rfl) (And.intro rfl (And.intro (by decide) (am_alS (s := 3) (o := 32) (by omega) rfl (And.intro (Or.inr (Or.inr (Or.inr rfl))) ?_)))))))
          by_cases hl : ln 3 = -1
          · have e : o_bars ln sz 3 a i 1 = -11 := by unfold o_bars; rw [if_pos hl]
            rw [e, if_pos (by decide)] at h
            rw [if_pos (q.1.trans hl)]
            exact am_f (by decide) (h I L hC)
          · rw [if_neg (fun z => hl (q.1.symm.trans z))]
            by_cases hla : ln 3 = a
            · rw [if_pos (q.1.trans hla)]
              refine am_t rfl (And.intro (Or.inr (Or.inr (Or.inr rfl))) ?_)
              rw [o_bars_0 hl hla] at h
              rw [am_has (hV.2.2.2.2 3 (by omega)).2 (q.2.1 hl)]
              by_cases hi : 0 ≤ i.toInt ∧ 0 ≤ (1 : Int32).toInt ∧ i.toInt + (1 : Int32).toInt ≤ (sz 3 : Int)
              · rw [if_pos hi, if_neg (by decide)] at h
                refine am_nt (am_bp hi) (And.intro (Or.inr (Or.inr (Or.inr rfl))) ?_)
                rw [am_has (hV.2.2.2.2 3 (by omega)).2 (q.2.1 hl)]
                have h24 := (hV.2.2.2.2 3 (by omega)).2
                have e1 : (1 : Int32).toInt = 1 := rfl
                refine And.intro (fun _ => vp_in_iff.mpr ⟨hi.1, by omega⟩) ?_
                show post (some (.int 1)) I (if am_b (0 ≤ i.toInt ∧ 0 ≤ (1 : Int32).toInt ∧ i.toInt + (1 : Int32).toInt ≤ (sz 3 : Int)) = 1 then am_uj L 33 i.toNatClampNeg (f_cut (I 32 1) v) else L)
                rw [if_pos (am_b1 hi), q.1, hla]
                refine h _ _ (CR_sh (s := 3) hC (by omega) (fun _ _ => rfl) (fun c hc => am_uj_o hc) (hV.2.2.2.2 3 (by omega)) (fun u hu => ⟨rfl, rfl, o_upd_n hu⟩) q.1 q.2.1 (fun j hj => ?_))
                rw [o_upd_e]
                show am_uj L 33 i.toNatClampNeg (f_cut a v) 33 j = o_upd (it 3) i.toNatClampNeg (f_cut a v) j
                by_cases e : j = i.toNatClampNeg
                · rw [e, o_upd_e]; exact am_uj_e
                · rw [o_upd_n e]; exact (am_uj_n (fun z => e z.2)).trans (q.2.2 j hj)
              · rw [if_neg hi, if_pos (by decide)] at h
                exact am_nf (am_bn hi) (h I L hC)
            · have e : o_bars ln sz 3 a i 1 = -12 := by unfold o_bars; rw [if_neg hl, if_pos hla]
              rw [e, if_pos (by decide)] at h
              rw [if_neg (fun z => hla (q.1.symm.trans z))]
              exact am_f (by decide) (h I L hC)
      · rw [if_pos (Or.inr ha)] at h
        exact hG2 [] 100 0 _ _ _ _ (am_f (am_bp hs) (am_nf (am_bn ha) (h I L hC)))
    · rw [if_pos (Or.inl hs)] at h
      exact hG2 [] 100 0 _ _ _ _ (am_t (am_bn hs) (h I L hC))
  · exact h.elim
