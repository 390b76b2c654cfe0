/-! THE CLASS: a sheet copied -/
theorem o_bars_ran {ln : Nat → Int32} {sz : Nat → Nat} {s : Nat} {a i n : Int32} (h1 : ¬ ln s = -1) (h2 : ln s = a) : o_bars ln sz s a i n = 0 ↔ (0 ≤ i.toInt ∧ 0 ≤ n.toInt ∧ i.toInt + n.toInt ≤ sz s) := by
  rw [o_bars_0 h1 h2]
  constructor
  · intro q
    apply Classical.byContradiction
    intro z
    rw [if_neg z] at q
    exact absurd q (by decide)
  · intro q; rw [if_pos q]
theorem am_n0 {i : Int32} (h : 0 ≤ i.toInt) : ¬ i < 0 := fun z => by
  have := Int32.lt_iff_toInt_lt.mp z
  have e : (0 : Int32).toInt = 0 := rfl
  omega
theorem am_clp {i : Int32} (h : 0 ≤ i.toInt) : (i.toNatClampNeg : Int) = i.toInt := by
  obtain ⟨k, hk, rfl⟩ := nI_of (am_n0 h)
  rw [nI_clamp hk, nI_toInt hk]
def T_RP_copy : am_Sp := fun vs I L post => match vs with
  | [.ref o, .int s, .int i, .int t, .int j, .int n] => o = 0 ∧ ∃ A, CR I L A ∧ ∀ (I2 : am_I) (L2 : am_J), CR I2 L2 (o_copy A s i t j n).2 → post (some (.int (o_copy A s i t j n).1)) I2 L2
  | _ => False
def sp_RP_copy : Nat → am_Sp := fun i => match i with
  | 103 => T_RP_isFrom0
  | 184 => T_SH_has
  | 203 => T_SH_isNothing
  | 217 => T_SY_arraycopy
  | _ => am_no
set_option maxRecDepth 100000 in
set_option maxHeartbeats 4000000 in
theorem am_copy_0_0 {I : am_I} {L : am_J} {post : am_Po} {G2 : am_G} (hG2 : ∀ (cuts : List (Nat × List Nat)) (n pc : Nat) (ls : am_Lv) (st : List Value) (I : am_I) (L : am_J), am_ev am_SX sp_RP_copy false post k_RP_copy cuts G2 n pc ls st I L → G2 pc ls st I L) {i j n : Int32} {G K : Nat → Nat} {hk : Bool} {tn : Nat} {tt : Nat → Nat} {ln : Nat → Int32} {sz : Nat → Nat} {it : Nat → Nat → Int64}
    (hs : 0 ≤ nI 0 ∧ nI 0 < 4) (ht : 0 ≤ nI 0 ∧ nI 0 < 4) (hC : CR I L (G, K, hk, tn, tt, ln, sz, it)) (h : ∀ (I2 : am_I) (L2 : am_J), CR I2 L2 (o_copy (G, K, hk, tn, tt, ln, sz, it) (nI 0) i (nI 0) j n).2 → post (some (.int (o_copy (G, K, hk, tn, tt, ln, sz, it) (nI 0) i (nI 0) j n).1)) I2 L2) : G2 0 (am_ent [.ref 0, .int (nI 0), .int i, .int (nI 0), .int j, .int n] 8) [] I L := by
  obtain ⟨hV, hR, hKr, hk7, hT, hS, hSh⟩ := id hC
  dsimp only [o_copy] at h
  rw [if_neg (by rintro (q | q); exact q hs; exact q ht), nI_clamp (n := 0) (by omega)] at h
  have q : I 26 1 = ln 0 ∧ (¬ ln 0 = -1 → I 26 2 = nI (sz 0)) ∧ ∀ j, j < 24 → L 27 j = it 0 j := hSh 0 (by omega)
  have p : I 26 1 = ln 0 ∧ (¬ ln 0 = -1 → I 26 2 = nI (sz 0)) ∧ ∀ j, j < 24 → L 27 j = it 0 j := hSh 0 (by omega)
  have zs := (hV.2.2.2.2 0 (by omega)).2
  have zt := (hV.2.2.2.2 0 (by omega)).2
  refine hG2 [] 100 0 _ _ _ _ (am_f (am_bp hs) (am_nt (am_bp ht) (And.intro (am_vin (N := 4) (n := 0) (by omega) rfl) (And.intro rfl (And.intro (by decide) (am_alS (s := 0) (o := 26) (by omega) rfl (And.intro (am_vin (N := 4) (n := 0) (by omega) rfl) (And.intro rfl (And.intro (by decide) (am_alS (s := 0) (o := 26) (by omega) rfl (And.intro (Or.inl rfl) ?_)))))))))))
  by_cases l1 : ln 0 = -1
  · rw [if_pos (Or.inl l1)] at h
    exact am_nt (am_bp (q.1.trans l1)) (h I L hC)
  · refine am_nf (am_bn (fun z => l1 (q.1.symm.trans z))) (And.intro (Or.inl rfl) ?_)
    by_cases l2 : ln 0 = -1
    · rw [if_pos (Or.inr l2)] at h
      exact am_f (am_bp (p.1.trans l2)) (h I L hC)
    · rw [if_neg (by rintro (z | z); exact l1 z; exact l2 z)] at h
      refine am_t (am_bn (fun z => l2 (p.1.symm.trans z))) ?_
      by_cases l3 : ln 0 = ln 0
      · rw [if_neg (fun z => z l3)] at h
        refine am_t (show I 26 1 = I 26 1 from q.1.trans (l3.trans p.1.symm)) (And.intro (Or.inl rfl) ?_)
        rw [am_has zs (q.2.1 l1)]
        have br := @o_bars_ran ln sz 0 (ln 0) i n l1 l3
        have cr := @o_bars_ran ln sz 0 (ln 0) j n l2 l3.symm
        by_cases hi : 0 ≤ i.toInt ∧ 0 ≤ n.toInt ∧ i.toInt + n.toInt ≤ (sz 0 : Int)
        · refine am_f (am_bp hi) (And.intro (Or.inl rfl) ?_)
          rw [am_has zt (p.2.1 l2)]
          by_cases hj : 0 ≤ j.toInt ∧ 0 ≤ n.toInt ∧ j.toInt + n.toInt ≤ (sz 0 : Int)
          · rw [if_neg (by rintro (z | z); exact z (br.mpr hi); exact z (cr.mpr hj))] at h
            have ci := am_clp hi.1
            have cj := am_clp hj.1
            have cn := am_clp hi.2.1
            have bi : i.toNatClampNeg + n.toNatClampNeg ≤ 24 := by omega
            have bj : j.toNatClampNeg + n.toNatClampNeg ≤ 24 := by omega
            refine am_nt (am_bp hj) (And.intro (am_n0 hi.1) (And.intro (am_n0 hj.1) (And.intro (am_n0 hi.2.1) (And.intro bi (And.intro bj ?_)))))
            show post (some (.int n)) I (am_cpj L 27 27 i.toNatClampNeg j.toNatClampNeg n.toNatClampNeg)
            refine h _ _ (CR_sh (s := 0) hC (by omega) (fun _ _ => rfl) (fun c hc => am_cpj_o hc) (hV.2.2.2.2 0 (by omega)) (fun u hu => ⟨rfl, rfl, o_upd_n hu⟩) p.1 p.2.1 (fun k hk => ?_))
            rw [o_upd_e, am_cpj_r]
            unfold o_cpy
            by_cases e : j.toNatClampNeg ≤ k ∧ k < j.toNatClampNeg + n.toNatClampNeg
            · rw [if_pos ⟨rfl, e⟩, if_pos e]; exact q.2.2 _ (by omega)
            · rw [if_neg (fun z => e z.2), if_neg e]; exact p.2.2 k hk
          · rw [if_pos (Or.inr (fun z => hj (cr.mp z)))] at h
            exact am_nf (am_bn hj) (h I L hC)
        · rw [if_pos (Or.inl (fun z => hi (br.mp z)))] at h
          exact am_t (am_bn hi) (h I L hC)
      · rw [if_pos l3] at h
        exact am_f (show ¬ I 26 1 = I 26 1 from fun z => l3 (q.1.symm.trans (z.trans p.1))) (h I L hC)
set_option maxRecDepth 100000 in
set_option maxHeartbeats 4000000 in
theorem am_copy_0_1 {I : am_I} {L : am_J} {post : am_Po} {G2 : am_G} (hG2 : ∀ (cuts : List (Nat × List Nat)) (n pc : Nat) (ls : am_Lv) (st : List Value) (I : am_I) (L : am_J), am_ev am_SX sp_RP_copy false post k_RP_copy cuts G2 n pc ls st I L → G2 pc ls st I L) {i j n : Int32} {G K : Nat → Nat} {hk : Bool} {tn : Nat} {tt : Nat → Nat} {ln : Nat → Int32} {sz : Nat → Nat} {it : Nat → Nat → Int64}
    (hs : 0 ≤ nI 0 ∧ nI 0 < 4) (ht : 0 ≤ nI 1 ∧ nI 1 < 4) (hC : CR I L (G, K, hk, tn, tt, ln, sz, it)) (h : ∀ (I2 : am_I) (L2 : am_J), CR I2 L2 (o_copy (G, K, hk, tn, tt, ln, sz, it) (nI 0) i (nI 1) j n).2 → post (some (.int (o_copy (G, K, hk, tn, tt, ln, sz, it) (nI 0) i (nI 1) j n).1)) I2 L2) : G2 0 (am_ent [.ref 0, .int (nI 0), .int i, .int (nI 1), .int j, .int n] 8) [] I L := by
  obtain ⟨hV, hR, hKr, hk7, hT, hS, hSh⟩ := id hC
  dsimp only [o_copy] at h
  rw [if_neg (by rintro (q | q); exact q hs; exact q ht), nI_clamp (n := 0) (by omega), nI_clamp (n := 1) (by omega)] at h
  have q : I 26 1 = ln 0 ∧ (¬ ln 0 = -1 → I 26 2 = nI (sz 0)) ∧ ∀ j, j < 24 → L 27 j = it 0 j := hSh 0 (by omega)
  have p : I 28 1 = ln 1 ∧ (¬ ln 1 = -1 → I 28 2 = nI (sz 1)) ∧ ∀ j, j < 24 → L 29 j = it 1 j := hSh 1 (by omega)
  have zs := (hV.2.2.2.2 0 (by omega)).2
  have zt := (hV.2.2.2.2 1 (by omega)).2
  refine hG2 [] 100 0 _ _ _ _ (am_f (am_bp hs) (am_nt (am_bp ht) (And.intro (am_vin (N := 4) (n := 0) (by omega) rfl) (And.intro rfl (And.intro (by decide) (am_alS (s := 0) (o := 26) (by omega) rfl (And.intro (am_vin (N := 4) (n := 1) (by omega) rfl) (And.intro rfl (And.intro (by decide) (am_alS (s := 1) (o := 28) (by omega) rfl (And.intro (Or.inl rfl) ?_)))))))))))
  by_cases l1 : ln 0 = -1
  · rw [if_pos (Or.inl l1)] at h
    exact am_nt (am_bp (q.1.trans l1)) (h I L hC)
  · refine am_nf (am_bn (fun z => l1 (q.1.symm.trans z))) (And.intro (Or.inr (Or.inl rfl)) ?_)
    by_cases l2 : ln 1 = -1
    · rw [if_pos (Or.inr l2)] at h
      exact am_f (am_bp (p.1.trans l2)) (h I L hC)
    · rw [if_neg (by rintro (z | z); exact l1 z; exact l2 z)] at h
      refine am_t (am_bn (fun z => l2 (p.1.symm.trans z))) ?_
      by_cases l3 : ln 0 = ln 1
      · rw [if_neg (fun z => z l3)] at h
        refine am_t (show I 26 1 = I 28 1 from q.1.trans (l3.trans p.1.symm)) (And.intro (Or.inl rfl) ?_)
        rw [am_has zs (q.2.1 l1)]
        have br := @o_bars_ran ln sz 0 (ln 1) i n l1 l3
        have cr := @o_bars_ran ln sz 1 (ln 0) j n l2 l3.symm
        by_cases hi : 0 ≤ i.toInt ∧ 0 ≤ n.toInt ∧ i.toInt + n.toInt ≤ (sz 0 : Int)
        · refine am_f (am_bp hi) (And.intro (Or.inr (Or.inl rfl)) ?_)
          rw [am_has zt (p.2.1 l2)]
          by_cases hj : 0 ≤ j.toInt ∧ 0 ≤ n.toInt ∧ j.toInt + n.toInt ≤ (sz 1 : Int)
          · rw [if_neg (by rintro (z | z); exact z (br.mpr hi); exact z (cr.mpr hj))] at h
            have ci := am_clp hi.1
            have cj := am_clp hj.1
            have cn := am_clp hi.2.1
            have bi : i.toNatClampNeg + n.toNatClampNeg ≤ 24 := by omega
            have bj : j.toNatClampNeg + n.toNatClampNeg ≤ 24 := by omega
            refine am_nt (am_bp hj) (And.intro (am_n0 hi.1) (And.intro (am_n0 hj.1) (And.intro (am_n0 hi.2.1) (And.intro bi (And.intro bj ?_)))))
            show post (some (.int n)) I (am_cpj L 27 29 i.toNatClampNeg j.toNatClampNeg n.toNatClampNeg)
            refine h _ _ (CR_sh (s := 1) hC (by omega) (fun _ _ => rfl) (fun c hc => am_cpj_o hc) (hV.2.2.2.2 1 (by omega)) (fun u hu => ⟨rfl, rfl, o_upd_n hu⟩) p.1 p.2.1 (fun k hk => ?_))
            rw [o_upd_e, am_cpj_r]
            unfold o_cpy
            by_cases e : j.toNatClampNeg ≤ k ∧ k < j.toNatClampNeg + n.toNatClampNeg
            · rw [if_pos ⟨rfl, e⟩, if_pos e]; exact q.2.2 _ (by omega)
            · rw [if_neg (fun z => e z.2), if_neg e]; exact p.2.2 k hk
          · rw [if_pos (Or.inr (fun z => hj (cr.mp z)))] at h
            exact am_nf (am_bn hj) (h I L hC)
        · rw [if_pos (Or.inl (fun z => hi (br.mp z)))] at h
          exact am_t (am_bn hi) (h I L hC)
      · rw [if_pos l3] at h
        exact am_f (show ¬ I 26 1 = I 28 1 from fun z => l3 (q.1.symm.trans (z.trans p.1))) (h I L hC)
set_option maxRecDepth 100000 in
set_option maxHeartbeats 4000000 in
theorem am_copy_0_2 {I : am_I} {L : am_J} {post : am_Po} {G2 : am_G} (hG2 : ∀ (cuts : List (Nat × List Nat)) (n pc : Nat) (ls : am_Lv) (st : List Value) (I : am_I) (L : am_J), am_ev am_SX sp_RP_copy false post k_RP_copy cuts G2 n pc ls st I L → G2 pc ls st I L) {i j n : Int32} {G K : Nat → Nat} {hk : Bool} {tn : Nat} {tt : Nat → Nat} {ln : Nat → Int32} {sz : Nat → Nat} {it : Nat → Nat → Int64}
    (hs : 0 ≤ nI 0 ∧ nI 0 < 4) (ht : 0 ≤ nI 2 ∧ nI 2 < 4) (hC : CR I L (G, K, hk, tn, tt, ln, sz, it)) (h : ∀ (I2 : am_I) (L2 : am_J), CR I2 L2 (o_copy (G, K, hk, tn, tt, ln, sz, it) (nI 0) i (nI 2) j n).2 → post (some (.int (o_copy (G, K, hk, tn, tt, ln, sz, it) (nI 0) i (nI 2) j n).1)) I2 L2) : G2 0 (am_ent [.ref 0, .int (nI 0), .int i, .int (nI 2), .int j, .int n] 8) [] I L := by
  obtain ⟨hV, hR, hKr, hk7, hT, hS, hSh⟩ := id hC
  dsimp only [o_copy] at h
  rw [if_neg (by rintro (q | q); exact q hs; exact q ht), nI_clamp (n := 0) (by omega), nI_clamp (n := 2) (by omega)] at h
  have q : I 26 1 = ln 0 ∧ (¬ ln 0 = -1 → I 26 2 = nI (sz 0)) ∧ ∀ j, j < 24 → L 27 j = it 0 j := hSh 0 (by omega)
  have p : I 30 1 = ln 2 ∧ (¬ ln 2 = -1 → I 30 2 = nI (sz 2)) ∧ ∀ j, j < 24 → L 31 j = it 2 j := hSh 2 (by omega)
  have zs := (hV.2.2.2.2 0 (by omega)).2
  have zt := (hV.2.2.2.2 2 (by omega)).2
  refine hG2 [] 100 0 _ _ _ _ (am_f (am_bp hs) (am_nt (am_bp ht) (And.intro (am_vin (N := 4) (n := 0) (by omega) rfl) (And.intro rfl (And.intro (by decide) (am_alS (s := 0) (o := 26) (by omega) rfl (And.intro (am_vin (N := 4) (n := 2) (by omega) rfl) (And.intro rfl (And.intro (by decide) (am_alS (s := 2) (o := 30) (by omega) rfl (And.intro (Or.inl rfl) ?_)))))))))))
  by_cases l1 : ln 0 = -1
  · rw [if_pos (Or.inl l1)] at h
    exact am_nt (am_bp (q.1.trans l1)) (h I L hC)
  · refine am_nf (am_bn (fun z => l1 (q.1.symm.trans z))) (And.intro (Or.inr (Or.inr (Or.inl rfl))) ?_)
    by_cases l2 : ln 2 = -1
    · rw [if_pos (Or.inr l2)] at h
      exact am_f (am_bp (p.1.trans l2)) (h I L hC)
    · rw [if_neg (by rintro (z | z); exact l1 z; exact l2 z)] at h
      refine am_t (am_bn (fun z => l2 (p.1.symm.trans z))) ?_
      by_cases l3 : ln 0 = ln 2
      · rw [if_neg (fun z => z l3)] at h
        refine am_t (show I 26 1 = I 30 1 from q.1.trans (l3.trans p.1.symm)) (And.intro (Or.inl rfl) ?_)
        rw [am_has zs (q.2.1 l1)]
        have br := @o_bars_ran ln sz 0 (ln 2) i n l1 l3
        have cr := @o_bars_ran ln sz 2 (ln 0) j n l2 l3.symm
        by_cases hi : 0 ≤ i.toInt ∧ 0 ≤ n.toInt ∧ i.toInt + n.toInt ≤ (sz 0 : Int)
        · refine am_f (am_bp hi) (And.intro (Or.inr (Or.inr (Or.inl rfl))) ?_)
          rw [am_has zt (p.2.1 l2)]
          by_cases hj : 0 ≤ j.toInt ∧ 0 ≤ n.toInt ∧ j.toInt + n.toInt ≤ (sz 2 : Int)
          · rw [if_neg (by rintro (z | z); exact z (br.mpr hi); exact z (cr.mpr hj))] at h
            have ci := am_clp hi.1
            have cj := am_clp hj.1
            have cn := am_clp hi.2.1
            have bi : i.toNatClampNeg + n.toNatClampNeg ≤ 24 := by omega
            have bj : j.toNatClampNeg + n.toNatClampNeg ≤ 24 := by omega
            refine am_nt (am_bp hj) (And.intro (am_n0 hi.1) (And.intro (am_n0 hj.1) (And.intro (am_n0 hi.2.1) (And.intro bi (And.intro bj ?_)))))
            show post (some (.int n)) I (am_cpj L 27 31 i.toNatClampNeg j.toNatClampNeg n.toNatClampNeg)
            refine h _ _ (CR_sh (s := 2) hC (by omega) (fun _ _ => rfl) (fun c hc => am_cpj_o hc) (hV.2.2.2.2 2 (by omega)) (fun u hu => ⟨rfl, rfl, o_upd_n hu⟩) p.1 p.2.1 (fun k hk => ?_))
            rw [o_upd_e, am_cpj_r]
            unfold o_cpy
            by_cases e : j.toNatClampNeg ≤ k ∧ k < j.toNatClampNeg + n.toNatClampNeg
            · rw [if_pos ⟨rfl, e⟩, if_pos e]; exact q.2.2 _ (by omega)
            · rw [if_neg (fun z => e z.2), if_neg e]; exact p.2.2 k hk
          · rw [if_pos (Or.inr (fun z => hj (cr.mp z)))] at h
            exact am_nf (am_bn hj) (h I L hC)
        · rw [if_pos (Or.inl (fun z => hi (br.mp z)))] at h
          exact am_t (am_bn hi) (h I L hC)
      · rw [if_pos l3] at h
        exact am_f (show ¬ I 26 1 = I 30 1 from fun z => l3 (q.1.symm.trans (z.trans p.1))) (h I L hC)
set_option maxRecDepth 100000 in
set_option maxHeartbeats 4000000 in
theorem am_copy_0_3 {I : am_I} {L : am_J} {post : am_Po} {G2 : am_G} (hG2 : ∀ (cuts : List (Nat × List Nat)) (n pc : Nat) (ls : am_Lv) (st : List Value) (I : am_I) (L : am_J), am_ev am_SX sp_RP_copy false post k_RP_copy cuts G2 n pc ls st I L → G2 pc ls st I L) {i j n : Int32} {G K : Nat → Nat} {hk : Bool} {tn : Nat} {tt : Nat → Nat} {ln : Nat → Int32} {sz : Nat → Nat} {it : Nat → Nat → Int64}
    (hs : 0 ≤ nI 0 ∧ nI 0 < 4) (ht : 0 ≤ nI 3 ∧ nI 3 < 4) (hC : CR I L (G, K, hk, tn, tt, ln, sz, it)) (h : ∀ (I2 : am_I) (L2 : am_J), CR I2 L2 (o_copy (G, K, hk, tn, tt, ln, sz, it) (nI 0) i (nI 3) j n).2 → post (some (.int (o_copy (G, K, hk, tn, tt, ln, sz, it) (nI 0) i (nI 3) j n).1)) I2 L2) : G2 0 (am_ent [.ref 0, .int (nI 0), .int i, .int (nI 3), .int j, .int n] 8) [] I L := by
  obtain ⟨hV, hR, hKr, hk7, hT, hS, hSh⟩ := id hC
  dsimp only [o_copy] at h
  rw [if_neg (by rintro (q | q); exact q hs; exact q ht), nI_clamp (n := 0) (by omega), nI_clamp (n := 3) (by omega)] at h
  have q : I 26 1 = ln 0 ∧ (¬ ln 0 = -1 → I 26 2 = nI (sz 0)) ∧ ∀ j, j < 24 → L 27 j = it 0 j := hSh 0 (by omega)
  have p : I 32 1 = ln 3 ∧ (¬ ln 3 = -1 → I 32 2 = nI (sz 3)) ∧ ∀ j, j < 24 → L 33 j = it 3 j := hSh 3 (by omega)
  have zs := (hV.2.2.2.2 0 (by omega)).2
  have zt := (hV.2.2.2.2 3 (by omega)).2
  refine hG2 [] 100 0 _ _ _ _ (am_f (am_bp hs) (am_nt (am_bp ht) (And.intro (am_vin (N := 4) (n := 0) (by omega) rfl) (And.intro rfl (And.intro (by decide) (am_alS (s := 0) (o := 26) (by omega) rfl (And.intro (am_vin (N := 4) (n := 3) (by omega) rfl) (And.intro rfl (And.intro (by decide) (am_alS (s := 3) (o := 32) (by omega) rfl (And.intro (Or.inl rfl) ?_)))))))))))
  by_cases l1 : ln 0 = -1
  · rw [if_pos (Or.inl l1)] at h
    exact am_nt (am_bp (q.1.trans l1)) (h I L hC)
  · refine am_nf (am_bn (fun z => l1 (q.1.symm.trans z))) (And.intro (Or.inr (Or.inr (Or.inr rfl))) ?_)
    by_cases l2 : ln 3 = -1
    · rw [if_pos (Or.inr l2)] at h
      exact am_f (am_bp (p.1.trans l2)) (h I L hC)
    · rw [if_neg (by rintro (z | z); exact l1 z; exact l2 z)] at h
      refine am_t (am_bn (fun z => l2 (p.1.symm.trans z))) ?_
      by_cases l3 : ln 0 = ln 3
      · rw [if_neg (fun z => z l3)] at h
        refine am_t (show I 26 1 = I 32 1 from q.1.trans (l3.trans p.1.symm)) (And.intro (Or.inl rfl) ?_)
        rw [am_has zs (q.2.1 l1)]
        have br := @o_bars_ran ln sz 0 (ln 3) i n l1 l3
        have cr := @o_bars_ran ln sz 3 (ln 0) j n l2 l3.symm
        by_cases hi : 0 ≤ i.toInt ∧ 0 ≤ n.toInt ∧ i.toInt + n.toInt ≤ (sz 0 : Int)
        · refine am_f (am_bp hi) (And.intro (Or.inr (Or.inr (Or.inr rfl))) ?_)
          rw [am_has zt (p.2.1 l2)]
          by_cases hj : 0 ≤ j.toInt ∧ 0 ≤ n.toInt ∧ j.toInt + n.toInt ≤ (sz 3 : Int)
          · rw [if_neg (by rintro (z | z); exact z (br.mpr hi); exact z (cr.mpr hj))] at h
            have ci := am_clp hi.1
            have cj := am_clp hj.1
            have cn := am_clp hi.2.1
            have bi : i.toNatClampNeg + n.toNatClampNeg ≤ 24 := by omega
            have bj : j.toNatClampNeg + n.toNatClampNeg ≤ 24 := by omega
            refine am_nt (am_bp hj) (And.intro (am_n0 hi.1) (And.intro (am_n0 hj.1) (And.intro (am_n0 hi.2.1) (And.intro bi (And.intro bj ?_)))))
            show post (some (.int n)) I (am_cpj L 27 33 i.toNatClampNeg j.toNatClampNeg n.toNatClampNeg)
            refine h _ _ (CR_sh (s := 3) hC (by omega) (fun _ _ => rfl) (fun c hc => am_cpj_o hc) (hV.2.2.2.2 3 (by omega)) (fun u hu => ⟨rfl, rfl, o_upd_n hu⟩) p.1 p.2.1 (fun k hk => ?_))
            rw [o_upd_e, am_cpj_r]
            unfold o_cpy
            by_cases e : j.toNatClampNeg ≤ k ∧ k < j.toNatClampNeg + n.toNatClampNeg
            · rw [if_pos ⟨rfl, e⟩, if_pos e]; exact q.2.2 _ (by omega)
            · rw [if_neg (fun z => e z.2), if_neg e]; exact p.2.2 k hk
          · rw [if_pos (Or.inr (fun z => hj (cr.mp z)))] at h
            exact am_nf (am_bn hj) (h I L hC)
        · rw [if_pos (Or.inl (fun z => hi (br.mp z)))] at h
          exact am_t (am_bn hi) (h I L hC)
      · rw [if_pos l3] at h
        exact am_f (show ¬ I 26 1 = I 32 1 from fun z => l3 (q.1.symm.trans (z.trans p.1))) (h I L hC)
set_option maxRecDepth 100000 in
set_option maxHeartbeats 4000000 in
theorem am_copy_1_0 {I : am_I} {L : am_J} {post : am_Po} {G2 : am_G} (hG2 : ∀ (cuts : List (Nat × List Nat)) (n pc : Nat) (ls : am_Lv) (st : List Value) (I : am_I) (L : am_J), am_ev am_SX sp_RP_copy false post k_RP_copy cuts G2 n pc ls st I L → G2 pc ls st I L) {i j n : Int32} {G K : Nat → Nat} {hk : Bool} {tn : Nat} {tt : Nat → Nat} {ln : Nat → Int32} {sz : Nat → Nat} {it : Nat → Nat → Int64}
    (hs : 0 ≤ nI 1 ∧ nI 1 < 4) (ht : 0 ≤ nI 0 ∧ nI 0 < 4) (hC : CR I L (G, K, hk, tn, tt, ln, sz, it)) (h : ∀ (I2 : am_I) (L2 : am_J), CR I2 L2 (o_copy (G, K, hk, tn, tt, ln, sz, it) (nI 1) i (nI 0) j n).2 → post (some (.int (o_copy (G, K, hk, tn, tt, ln, sz, it) (nI 1) i (nI 0) j n).1)) I2 L2) : G2 0 (am_ent [.ref 0, .int (nI 1), .int i, .int (nI 0), .int j, .int n] 8) [] I L := by
  obtain ⟨hV, hR, hKr, hk7, hT, hS, hSh⟩ := id hC
  dsimp only [o_copy] at h
  rw [if_neg (by rintro (q | q); exact q hs; exact q ht), nI_clamp (n := 1) (by omega), nI_clamp (n := 0) (by omega)] at h
  have q : I 28 1 = ln 1 ∧ (¬ ln 1 = -1 → I 28 2 = nI (sz 1)) ∧ ∀ j, j < 24 → L 29 j = it 1 j := hSh 1 (by omega)
  have p : I 26 1 = ln 0 ∧ (¬ ln 0 = -1 → I 26 2 = nI (sz 0)) ∧ ∀ j, j < 24 → L 27 j = it 0 j := hSh 0 (by omega)
  have zs := (hV.2.2.2.2 1 (by omega)).2
  have zt := (hV.2.2.2.2 0 (by omega)).2
  refine hG2 [] 100 0 _ _ _ _ (am_f (am_bp hs) (am_nt (am_bp ht) (And.intro (am_vin (N := 4) (n := 1) (by omega) rfl) (And.intro rfl (And.intro (by decide) (am_alS (s := 1) (o := 28) (by omega) rfl (And.intro (am_vin (N := 4) (n := 0) (by omega) rfl) (And.intro rfl (And.intro (by decide) (am_alS (s := 0) (o := 26) (by omega) rfl (And.intro (Or.inr (Or.inl rfl)) ?_)))))))))))
  by_cases l1 : ln 1 = -1
  · rw [if_pos (Or.inl l1)] at h
    exact am_nt (am_bp (q.1.trans l1)) (h I L hC)
  · refine am_nf (am_bn (fun z => l1 (q.1.symm.trans z))) (And.intro (Or.inl rfl) ?_)
    by_cases l2 : ln 0 = -1
    · rw [if_pos (Or.inr l2)] at h
      exact am_f (am_bp (p.1.trans l2)) (h I L hC)
    · rw [if_neg (by rintro (z | z); exact l1 z; exact l2 z)] at h
      refine am_t (am_bn (fun z => l2 (p.1.symm.trans z))) ?_
      by_cases l3 : ln 1 = ln 0
      · rw [if_neg (fun z => z l3)] at h
        refine am_t (show I 28 1 = I 26 1 from q.1.trans (l3.trans p.1.symm)) (And.intro (Or.inr (Or.inl rfl)) ?_)
        rw [am_has zs (q.2.1 l1)]
        have br := @o_bars_ran ln sz 1 (ln 0) i n l1 l3
        have cr := @o_bars_ran ln sz 0 (ln 1) j n l2 l3.symm
        by_cases hi : 0 ≤ i.toInt ∧ 0 ≤ n.toInt ∧ i.toInt + n.toInt ≤ (sz 1 : Int)
        · refine am_f (am_bp hi) (And.intro (Or.inl rfl) ?_)
          rw [am_has zt (p.2.1 l2)]
          by_cases hj : 0 ≤ j.toInt ∧ 0 ≤ n.toInt ∧ j.toInt + n.toInt ≤ (sz 0 : Int)
          · rw [if_neg (by rintro (z | z); exact z (br.mpr hi); exact z (cr.mpr hj))] at h
            have ci := am_clp hi.1
            have cj := am_clp hj.1
            have cn := am_clp hi.2.1
            have bi : i.toNatClampNeg + n.toNatClampNeg ≤ 24 := by omega
            have bj : j.toNatClampNeg + n.toNatClampNeg ≤ 24 := by omega
            refine am_nt (am_bp hj) (And.intro (am_n0 hi.1) (And.intro (am_n0 hj.1) (And.intro (am_n0 hi.2.1) (And.intro bi (And.intro bj ?_)))))
            show post (some (.int n)) I (am_cpj L 29 27 i.toNatClampNeg j.toNatClampNeg n.toNatClampNeg)
            refine h _ _ (CR_sh (s := 0) hC (by omega) (fun _ _ => rfl) (fun c hc => am_cpj_o hc) (hV.2.2.2.2 0 (by omega)) (fun u hu => ⟨rfl, rfl, o_upd_n hu⟩) p.1 p.2.1 (fun k hk => ?_))
            rw [o_upd_e, am_cpj_r]
            unfold o_cpy
            by_cases e : j.toNatClampNeg ≤ k ∧ k < j.toNatClampNeg + n.toNatClampNeg
            · rw [if_pos ⟨rfl, e⟩, if_pos e]; exact q.2.2 _ (by omega)
            · rw [if_neg (fun z => e z.2), if_neg e]; exact p.2.2 k hk
          · rw [if_pos (Or.inr (fun z => hj (cr.mp z)))] at h
            exact am_nf (am_bn hj) (h I L hC)
        · rw [if_pos (Or.inl (fun z => hi (br.mp z)))] at h
          exact am_t (am_bn hi) (h I L hC)
      · rw [if_pos l3] at h
        exact am_f (show ¬ I 28 1 = I 26 1 from fun z => l3 (q.1.symm.trans (z.trans p.1))) (h I L hC)
set_option maxRecDepth 100000 in
set_option maxHeartbeats 4000000 in
theorem am_copy_1_1 {I : am_I} {L : am_J} {post : am_Po} {G2 : am_G} (hG2 : ∀ (cuts : List (Nat × List Nat)) (n pc : Nat) (ls : am_Lv) (st : List Value) (I : am_I) (L : am_J), am_ev am_SX sp_RP_copy false post k_RP_copy cuts G2 n pc ls st I L → G2 pc ls st I L) {i j n : Int32} {G K : Nat → Nat} {hk : Bool} {tn : Nat} {tt : Nat → Nat} {ln : Nat → Int32} {sz : Nat → Nat} {it : Nat → Nat → Int64}
    (hs : 0 ≤ nI 1 ∧ nI 1 < 4) (ht : 0 ≤ nI 1 ∧ nI 1 < 4) (hC : CR I L (G, K, hk, tn, tt, ln, sz, it)) (h : ∀ (I2 : am_I) (L2 : am_J), CR I2 L2 (o_copy (G, K, hk, tn, tt, ln, sz, it) (nI 1) i (nI 1) j n).2 → post (some (.int (o_copy (G, K, hk, tn, tt, ln, sz, it) (nI 1) i (nI 1) j n).1)) I2 L2) : G2 0 (am_ent [.ref 0, .int (nI 1), .int i, .int (nI 1), .int j, .int n] 8) [] I L := by
  obtain ⟨hV, hR, hKr, hk7, hT, hS, hSh⟩ := id hC
  dsimp only [o_copy] at h
  rw [if_neg (by rintro (q | q); exact q hs; exact q ht), nI_clamp (n := 1) (by omega)] at h
  have q : I 28 1 = ln 1 ∧ (¬ ln 1 = -1 → I 28 2 = nI (sz 1)) ∧ ∀ j, j < 24 → L 29 j = it 1 j := hSh 1 (by omega)
  have p : I 28 1 = ln 1 ∧ (¬ ln 1 = -1 → I 28 2 = nI (sz 1)) ∧ ∀ j, j < 24 → L 29 j = it 1 j := hSh 1 (by omega)
  have zs := (hV.2.2.2.2 1 (by omega)).2
  have zt := (hV.2.2.2.2 1 (by omega)).2
  refine hG2 [] 100 0 _ _ _ _ (am_f (am_bp hs) (am_nt (am_bp ht) (And.intro (am_vin (N := 4) (n := 1) (by omega) rfl) (And.intro rfl (And.intro (by decide) (am_alS (s := 1) (o := 28) (by omega) rfl (And.intro (am_vin (N := 4) (n := 1) (by omega) rfl) (And.intro rfl (And.intro (by decide) (am_alS (s := 1) (o := 28) (by omega) rfl (And.intro (Or.inr (Or.inl rfl)) ?_)))))))))))
  by_cases l1 : ln 1 = -1
  · rw [if_pos (Or.inl l1)] at h
    exact am_nt (am_bp (q.1.trans l1)) (h I L hC)
  · refine am_nf (am_bn (fun z => l1 (q.1.symm.trans z))) (And.intro (Or.inr (Or.inl rfl)) ?_)
    by_cases l2 : ln 1 = -1
    · rw [if_pos (Or.inr l2)] at h
      exact am_f (am_bp (p.1.trans l2)) (h I L hC)
    · rw [if_neg (by rintro (z | z); exact l1 z; exact l2 z)] at h
      refine am_t (am_bn (fun z => l2 (p.1.symm.trans z))) ?_
      by_cases l3 : ln 1 = ln 1
      · rw [if_neg (fun z => z l3)] at h
        refine am_t (show I 28 1 = I 28 1 from q.1.trans (l3.trans p.1.symm)) (And.intro (Or.inr (Or.inl rfl)) ?_)
        rw [am_has zs (q.2.1 l1)]
        have br := @o_bars_ran ln sz 1 (ln 1) i n l1 l3
        have cr := @o_bars_ran ln sz 1 (ln 1) j n l2 l3.symm
        by_cases hi : 0 ≤ i.toInt ∧ 0 ≤ n.toInt ∧ i.toInt + n.toInt ≤ (sz 1 : Int)
        · refine am_f (am_bp hi) (And.intro (Or.inr (Or.inl rfl)) ?_)
          rw [am_has zt (p.2.1 l2)]
          by_cases hj : 0 ≤ j.toInt ∧ 0 ≤ n.toInt ∧ j.toInt + n.toInt ≤ (sz 1 : Int)
          · rw [if_neg (by rintro (z | z); exact z (br.mpr hi); exact z (cr.mpr hj))] at h
            have ci := am_clp hi.1
            have cj := am_clp hj.1
            have cn := am_clp hi.2.1
            have bi : i.toNatClampNeg + n.toNatClampNeg ≤ 24 := by omega
            have bj : j.toNatClampNeg + n.toNatClampNeg ≤ 24 := by omega
            refine am_nt (am_bp hj) (And.intro (am_n0 hi.1) (And.intro (am_n0 hj.1) (And.intro (am_n0 hi.2.1) (And.intro bi (And.intro bj ?_)))))
            show post (some (.int n)) I (am_cpj L 29 29 i.toNatClampNeg j.toNatClampNeg n.toNatClampNeg)
            refine h _ _ (CR_sh (s := 1) hC (by omega) (fun _ _ => rfl) (fun c hc => am_cpj_o hc) (hV.2.2.2.2 1 (by omega)) (fun u hu => ⟨rfl, rfl, o_upd_n hu⟩) p.1 p.2.1 (fun k hk => ?_))
            rw [o_upd_e, am_cpj_r]
            unfold o_cpy
            by_cases e : j.toNatClampNeg ≤ k ∧ k < j.toNatClampNeg + n.toNatClampNeg
            · rw [if_pos ⟨rfl, e⟩, if_pos e]; exact q.2.2 _ (by omega)
            · rw [if_neg (fun z => e z.2), if_neg e]; exact p.2.2 k hk
          · rw [if_pos (Or.inr (fun z => hj (cr.mp z)))] at h
            exact am_nf (am_bn hj) (h I L hC)
        · rw [if_pos (Or.inl (fun z => hi (br.mp z)))] at h
          exact am_t (am_bn hi) (h I L hC)
      · rw [if_pos l3] at h
        exact am_f (show ¬ I 28 1 = I 28 1 from fun z => l3 (q.1.symm.trans (z.trans p.1))) (h I L hC)
set_option maxRecDepth 100000 in
set_option maxHeartbeats 4000000 in
theorem am_copy_1_2 {I : am_I} {L : am_J} {post : am_Po} {G2 : am_G} (hG2 : ∀ (cuts : List (Nat × List Nat)) (n pc : Nat) (ls : am_Lv) (st : List Value) (I : am_I) (L : am_J), am_ev am_SX sp_RP_copy false post k_RP_copy cuts G2 n pc ls st I L → G2 pc ls st I L) {i j n : Int32} {G K : Nat → Nat} {hk : Bool} {tn : Nat} {tt : Nat → Nat} {ln : Nat → Int32} {sz : Nat → Nat} {it : Nat → Nat → Int64}
    (hs : 0 ≤ nI 1 ∧ nI 1 < 4) (ht : 0 ≤ nI 2 ∧ nI 2 < 4) (hC : CR I L (G, K, hk, tn, tt, ln, sz, it)) (h : ∀ (I2 : am_I) (L2 : am_J), CR I2 L2 (o_copy (G, K, hk, tn, tt, ln, sz, it) (nI 1) i (nI 2) j n).2 → post (some (.int (o_copy (G, K, hk, tn, tt, ln, sz, it) (nI 1) i (nI 2) j n).1)) I2 L2) : G2 0 (am_ent [.ref 0, .int (nI 1), .int i, .int (nI 2), .int j, .int n] 8) [] I L := by
  obtain ⟨hV, hR, hKr, hk7, hT, hS, hSh⟩ := id hC
  dsimp only [o_copy] at h
  rw [if_neg (by rintro (q | q); exact q hs; exact q ht), nI_clamp (n := 1) (by omega), nI_clamp (n := 2) (by omega)] at h
  have q : I 28 1 = ln 1 ∧ (¬ ln 1 = -1 → I 28 2 = nI (sz 1)) ∧ ∀ j, j < 24 → L 29 j = it 1 j := hSh 1 (by omega)
  have p : I 30 1 = ln 2 ∧ (¬ ln 2 = -1 → I 30 2 = nI (sz 2)) ∧ ∀ j, j < 24 → L 31 j = it 2 j := hSh 2 (by omega)
  have zs := (hV.2.2.2.2 1 (by omega)).2
  have zt := (hV.2.2.2.2 2 (by omega)).2
  refine hG2 [] 100 0 _ _ _ _ (am_f (am_bp hs) (am_nt (am_bp ht) (And.intro (am_vin (N := 4) (n := 1) (by omega) rfl) (And.intro rfl (And.intro (by decide) (am_alS (s := 1) (o := 28) (by omega) rfl (And.intro (am_vin (N := 4) (n := 2) (by omega) rfl) (And.intro rfl (And.intro (by decide) (am_alS (s := 2) (o := 30) (by omega) rfl (And.intro (Or.inr (Or.inl rfl)) ?_)))))))))))
  by_cases l1 : ln 1 = -1
  · rw [if_pos (Or.inl l1)] at h
    exact am_nt (am_bp (q.1.trans l1)) (h I L hC)
  · refine am_nf (am_bn (fun z => l1 (q.1.symm.trans z))) (And.intro (Or.inr (Or.inr (Or.inl rfl))) ?_)
    by_cases l2 : ln 2 = -1
    · rw [if_pos (Or.inr l2)] at h
      exact am_f (am_bp (p.1.trans l2)) (h I L hC)
    · rw [if_neg (by rintro (z | z); exact l1 z; exact l2 z)] at h
      refine am_t (am_bn (fun z => l2 (p.1.symm.trans z))) ?_
      by_cases l3 : ln 1 = ln 2
      · rw [if_neg (fun z => z l3)] at h
        refine am_t (show I 28 1 = I 30 1 from q.1.trans (l3.trans p.1.symm)) (And.intro (Or.inr (Or.inl rfl)) ?_)
        rw [am_has zs (q.2.1 l1)]
        have br := @o_bars_ran ln sz 1 (ln 2) i n l1 l3
        have cr := @o_bars_ran ln sz 2 (ln 1) j n l2 l3.symm
        by_cases hi : 0 ≤ i.toInt ∧ 0 ≤ n.toInt ∧ i.toInt + n.toInt ≤ (sz 1 : Int)
        · refine am_f (am_bp hi) (And.intro (Or.inr (Or.inr (Or.inl rfl))) ?_)
          rw [am_has zt (p.2.1 l2)]
          by_cases hj : 0 ≤ j.toInt ∧ 0 ≤ n.toInt ∧ j.toInt + n.toInt ≤ (sz 2 : Int)
          · rw [if_neg (by rintro (z | z); exact z (br.mpr hi); exact z (cr.mpr hj))] at h
            have ci := am_clp hi.1
            have cj := am_clp hj.1
            have cn := am_clp hi.2.1
            have bi : i.toNatClampNeg + n.toNatClampNeg ≤ 24 := by omega
            have bj : j.toNatClampNeg + n.toNatClampNeg ≤ 24 := by omega
            refine am_nt (am_bp hj) (And.intro (am_n0 hi.1) (And.intro (am_n0 hj.1) (And.intro (am_n0 hi.2.1) (And.intro bi (And.intro bj ?_)))))
            show post (some (.int n)) I (am_cpj L 29 31 i.toNatClampNeg j.toNatClampNeg n.toNatClampNeg)
            refine h _ _ (CR_sh (s := 2) hC (by omega) (fun _ _ => rfl) (fun c hc => am_cpj_o hc) (hV.2.2.2.2 2 (by omega)) (fun u hu => ⟨rfl, rfl, o_upd_n hu⟩) p.1 p.2.1 (fun k hk => ?_))
            rw [o_upd_e, am_cpj_r]
            unfold o_cpy
            by_cases e : j.toNatClampNeg ≤ k ∧ k < j.toNatClampNeg + n.toNatClampNeg
            · rw [if_pos ⟨rfl, e⟩, if_pos e]; exact q.2.2 _ (by omega)
            · rw [if_neg (fun z => e z.2), if_neg e]; exact p.2.2 k hk
          · rw [if_pos (Or.inr (fun z => hj (cr.mp z)))] at h
            exact am_nf (am_bn hj) (h I L hC)
        · rw [if_pos (Or.inl (fun z => hi (br.mp z)))] at h
          exact am_t (am_bn hi) (h I L hC)
      · rw [if_pos l3] at h
        exact am_f (show ¬ I 28 1 = I 30 1 from fun z => l3 (q.1.symm.trans (z.trans p.1))) (h I L hC)
set_option maxRecDepth 100000 in
set_option maxHeartbeats 4000000 in
theorem am_copy_1_3 {I : am_I} {L : am_J} {post : am_Po} {G2 : am_G} (hG2 : ∀ (cuts : List (Nat × List Nat)) (n pc : Nat) (ls : am_Lv) (st : List Value) (I : am_I) (L : am_J), am_ev am_SX sp_RP_copy false post k_RP_copy cuts G2 n pc ls st I L → G2 pc ls st I L) {i j n : Int32} {G K : Nat → Nat} {hk : Bool} {tn : Nat} {tt : Nat → Nat} {ln : Nat → Int32} {sz : Nat → Nat} {it : Nat → Nat → Int64}
    (hs : 0 ≤ nI 1 ∧ nI 1 < 4) (ht : 0 ≤ nI 3 ∧ nI 3 < 4) (hC : CR I L (G, K, hk, tn, tt, ln, sz, it)) (h : ∀ (I2 : am_I) (L2 : am_J), CR I2 L2 (o_copy (G, K, hk, tn, tt, ln, sz, it) (nI 1) i (nI 3) j n).2 → post (some (.int (o_copy (G, K, hk, tn, tt, ln, sz, it) (nI 1) i (nI 3) j n).1)) I2 L2) : G2 0 (am_ent [.ref 0, .int (nI 1), .int i, .int (nI 3), .int j, .int n] 8) [] I L := by
  obtain ⟨hV, hR, hKr, hk7, hT, hS, hSh⟩ := id hC
  dsimp only [o_copy] at h
  rw [if_neg (by rintro (q | q); exact q hs; exact q ht), nI_clamp (n := 1) (by omega), nI_clamp (n := 3) (by omega)] at h
  have q : I 28 1 = ln 1 ∧ (¬ ln 1 = -1 → I 28 2 = nI (sz 1)) ∧ ∀ j, j < 24 → L 29 j = it 1 j := hSh 1 (by omega)
  have p : I 32 1 = ln 3 ∧ (¬ ln 3 = -1 → I 32 2 = nI (sz 3)) ∧ ∀ j, j < 24 → L 33 j = it 3 j := hSh 3 (by omega)
  have zs := (hV.2.2.2.2 1 (by omega)).2
  have zt := (hV.2.2.2.2 3 (by omega)).2
  refine hG2 [] 100 0 _ _ _ _ (am_f (am_bp hs) (am_nt (am_bp ht) (And.intro (am_vin (N := 4) (n := 1) (by omega) rfl) (And.intro rfl (And.intro (by decide) (am_alS (s := 1) (o := 28) (by omega) rfl (And.intro (am_vin (N := 4) (n := 3) (by omega) rfl) (And.intro rfl (And.intro (by decide) (am_alS (s := 3) (o := 32) (by omega) rfl (And.intro (Or.inr (Or.inl rfl)) ?_)))))))))))
  by_cases l1 : ln 1 = -1
  · rw [if_pos (Or.inl l1)] at h
    exact am_nt (am_bp (q.1.trans l1)) (h I L hC)
  · refine am_nf (am_bn (fun z => l1 (q.1.symm.trans z))) (And.intro (Or.inr (Or.inr (Or.inr rfl))) ?_)
    by_cases l2 : ln 3 = -1
    · rw [if_pos (Or.inr l2)] at h
      exact am_f (am_bp (p.1.trans l2)) (h I L hC)
    · rw [if_neg (by rintro (z | z); exact l1 z; exact l2 z)] at h
      refine am_t (am_bn (fun z => l2 (p.1.symm.trans z))) ?_
      by_cases l3 : ln 1 = ln 3
      · rw [if_neg (fun z => z l3)] at h
        refine am_t (show I 28 1 = I 32 1 from q.1.trans (l3.trans p.1.symm)) (And.intro (Or.inr (Or.inl rfl)) ?_)
        rw [am_has zs (q.2.1 l1)]
        have br := @o_bars_ran ln sz 1 (ln 3) i n l1 l3
        have cr := @o_bars_ran ln sz 3 (ln 1) j n l2 l3.symm
        by_cases hi : 0 ≤ i.toInt ∧ 0 ≤ n.toInt ∧ i.toInt + n.toInt ≤ (sz 1 : Int)
        · refine am_f (am_bp hi) (And.intro (Or.inr (Or.inr (Or.inr rfl))) ?_)
          rw [am_has zt (p.2.1 l2)]
          by_cases hj : 0 ≤ j.toInt ∧ 0 ≤ n.toInt ∧ j.toInt + n.toInt ≤ (sz 3 : Int)
          · rw [if_neg (by rintro (z | z); exact z (br.mpr hi); exact z (cr.mpr hj))] at h
            have ci := am_clp hi.1
            have cj := am_clp hj.1
            have cn := am_clp hi.2.1
            have bi : i.toNatClampNeg + n.toNatClampNeg ≤ 24 := by omega
            have bj : j.toNatClampNeg + n.toNatClampNeg ≤ 24 := by omega
            refine am_nt (am_bp hj) (And.intro (am_n0 hi.1) (And.intro (am_n0 hj.1) (And.intro (am_n0 hi.2.1) (And.intro bi (And.intro bj ?_)))))
            show post (some (.int n)) I (am_cpj L 29 33 i.toNatClampNeg j.toNatClampNeg n.toNatClampNeg)
            refine h _ _ (CR_sh (s := 3) hC (by omega) (fun _ _ => rfl) (fun c hc => am_cpj_o hc) (hV.2.2.2.2 3 (by omega)) (fun u hu => ⟨rfl, rfl, o_upd_n hu⟩) p.1 p.2.1 (fun k hk => ?_))
            rw [o_upd_e, am_cpj_r]
            unfold o_cpy
            by_cases e : j.toNatClampNeg ≤ k ∧ k < j.toNatClampNeg + n.toNatClampNeg
            · rw [if_pos ⟨rfl, e⟩, if_pos e]; exact q.2.2 _ (by omega)
            · rw [if_neg (fun z => e z.2), if_neg e]; exact p.2.2 k hk
          · rw [if_pos (Or.inr (fun z => hj (cr.mp z)))] at h
            exact am_nf (am_bn hj) (h I L hC)
        · rw [if_pos (Or.inl (fun z => hi (br.mp z)))] at h
          exact am_t (am_bn hi) (h I L hC)
      · rw [if_pos l3] at h
        exact am_f (show ¬ I 28 1 = I 32 1 from fun z => l3 (q.1.symm.trans (z.trans p.1))) (h I L hC)
set_option maxRecDepth 100000 in
set_option maxHeartbeats 4000000 in
theorem am_copy_2_0 {I : am_I} {L : am_J} {post : am_Po} {G2 : am_G} (hG2 : ∀ (cuts : List (Nat × List Nat)) (n pc : Nat) (ls : am_Lv) (st : List Value) (I : am_I) (L : am_J), am_ev am_SX sp_RP_copy false post k_RP_copy cuts G2 n pc ls st I L → G2 pc ls st I L) {i j n : Int32} {G K : Nat → Nat} {hk : Bool} {tn : Nat} {tt : Nat → Nat} {ln : Nat → Int32} {sz : Nat → Nat} {it : Nat → Nat → Int64}
    (hs : 0 ≤ nI 2 ∧ nI 2 < 4) (ht : 0 ≤ nI 0 ∧ nI 0 < 4) (hC : CR I L (G, K, hk, tn, tt, ln, sz, it)) (h : ∀ (I2 : am_I) (L2 : am_J), CR I2 L2 (o_copy (G, K, hk, tn, tt, ln, sz, it) (nI 2) i (nI 0) j n).2 → post (some (.int (o_copy (G, K, hk, tn, tt, ln, sz, it) (nI 2) i (nI 0) j n).1)) I2 L2) : G2 0 (am_ent [.ref 0, .int (nI 2), .int i, .int (nI 0), .int j, .int n] 8) [] I L := by
  obtain ⟨hV, hR, hKr, hk7, hT, hS, hSh⟩ := id hC
  dsimp only [o_copy] at h
  rw [if_neg (by rintro (q | q); exact q hs; exact q ht), nI_clamp (n := 2) (by omega), nI_clamp (n := 0) (by omega)] at h
  have q : I 30 1 = ln 2 ∧ (¬ ln 2 = -1 → I 30 2 = nI (sz 2)) ∧ ∀ j, j < 24 → L 31 j = it 2 j := hSh 2 (by omega)
  have p : I 26 1 = ln 0 ∧ (¬ ln 0 = -1 → I 26 2 = nI (sz 0)) ∧ ∀ j, j < 24 → L 27 j = it 0 j := hSh 0 (by omega)
  have zs := (hV.2.2.2.2 2 (by omega)).2
  have zt := (hV.2.2.2.2 0 (by omega)).2
  refine hG2 [] 100 0 _ _ _ _ (am_f (am_bp hs) (am_nt (am_bp ht) (And.intro (am_vin (N := 4) (n := 2) (by omega) rfl) (And.intro rfl (And.intro (by decide) (am_alS (s := 2) (o := 30) (by omega) rfl (And.intro (am_vin (N := 4) (n := 0) (by omega) rfl) (And.intro rfl (And.intro (by decide) (am_alS (s := 0) (o := 26) (by omega) rfl (And.intro (Or.inr (Or.inr (Or.inl rfl))) ?_)))))))))))
  by_cases l1 : ln 2 = -1
  · rw [if_pos (Or.inl l1)] at h
    exact am_nt (am_bp (q.1.trans l1)) (h I L hC)
  · refine am_nf (am_bn (fun z => l1 (q.1.symm.trans z))) (And.intro (Or.inl rfl) ?_)
    by_cases l2 : ln 0 = -1
    · rw [if_pos (Or.inr l2)] at h
      exact am_f (am_bp (p.1.trans l2)) (h I L hC)
    · rw [if_neg (by rintro (z | z); exact l1 z; exact l2 z)] at h
      refine am_t (am_bn (fun z => l2 (p.1.symm.trans z))) ?_
      by_cases l3 : ln 2 = ln 0
      · rw [if_neg (fun z => z l3)] at h
        refine am_t (show I 30 1 = I 26 1 from q.1.trans (l3.trans p.1.symm)) (And.intro (Or.inr (Or.inr (Or.inl rfl))) ?_)
        rw [am_has zs (q.2.1 l1)]
        have br := @o_bars_ran ln sz 2 (ln 0) i n l1 l3
        have cr := @o_bars_ran ln sz 0 (ln 2) j n l2 l3.symm
        by_cases hi : 0 ≤ i.toInt ∧ 0 ≤ n.toInt ∧ i.toInt + n.toInt ≤ (sz 2 : Int)
        · refine am_f (am_bp hi) (And.intro (Or.inl rfl) ?_)
          rw [am_has zt (p.2.1 l2)]
          by_cases hj : 0 ≤ j.toInt ∧ 0 ≤ n.toInt ∧ j.toInt + n.toInt ≤ (sz 0 : Int)
          · rw [if_neg (by rintro (z | z); exact z (br.mpr hi); exact z (cr.mpr hj))] at h
            have ci := am_clp hi.1
            have cj := am_clp hj.1
            have cn := am_clp hi.2.1
            have bi : i.toNatClampNeg + n.toNatClampNeg ≤ 24 := by omega
            have bj : j.toNatClampNeg + n.toNatClampNeg ≤ 24 := by omega
            refine am_nt (am_bp hj) (And.intro (am_n0 hi.1) (And.intro (am_n0 hj.1) (And.intro (am_n0 hi.2.1) (And.intro bi (And.intro bj ?_)))))
            show post (some (.int n)) I (am_cpj L 31 27 i.toNatClampNeg j.toNatClampNeg n.toNatClampNeg)
            refine h _ _ (CR_sh (s := 0) hC (by omega) (fun _ _ => rfl) (fun c hc => am_cpj_o hc) (hV.2.2.2.2 0 (by omega)) (fun u hu => ⟨rfl, rfl, o_upd_n hu⟩) p.1 p.2.1 (fun k hk => ?_))
            rw [o_upd_e, am_cpj_r]
            unfold o_cpy
            by_cases e : j.toNatClampNeg ≤ k ∧ k < j.toNatClampNeg + n.toNatClampNeg
            · rw [if_pos ⟨rfl, e⟩, if_pos e]; exact q.2.2 _ (by omega)
            · rw [if_neg (fun z => e z.2), if_neg e]; exact p.2.2 k hk
          · rw [if_pos (Or.inr (fun z => hj (cr.mp z)))] at h
            exact am_nf (am_bn hj) (h I L hC)
        · rw [if_pos (Or.inl (fun z => hi (br.mp z)))] at h
          exact am_t (am_bn hi) (h I L hC)
      · rw [if_pos l3] at h
        exact am_f (show ¬ I 30 1 = I 26 1 from fun z => l3 (q.1.symm.trans (z.trans p.1))) (h I L hC)
set_option maxRecDepth 100000 in
set_option maxHeartbeats 4000000 in
theorem am_copy_2_1 {I : am_I} {L : am_J} {post : am_Po} {G2 : am_G} (hG2 : ∀ (cuts : List (Nat × List Nat)) (n pc : Nat) (ls : am_Lv) (st : List Value) (I : am_I) (L : am_J), am_ev am_SX sp_RP_copy false post k_RP_copy cuts G2 n pc ls st I L → G2 pc ls st I L) {i j n : Int32} {G K : Nat → Nat} {hk : Bool} {tn : Nat} {tt : Nat → Nat} {ln : Nat → Int32} {sz : Nat → Nat} {it : Nat → Nat → Int64}
    (hs : 0 ≤ nI 2 ∧ nI 2 < 4) (ht : 0 ≤ nI 1 ∧ nI 1 < 4) (hC : CR I L (G, K, hk, tn, tt, ln, sz, it)) (h : ∀ (I2 : am_I) (L2 : am_J), CR I2 L2 (o_copy (G, K, hk, tn, tt, ln, sz, it) (nI 2) i (nI 1) j n).2 → post (some (.int (o_copy (G, K, hk, tn, tt, ln, sz, it) (nI 2) i (nI 1) j n).1)) I2 L2) : G2 0 (am_ent [.ref 0, .int (nI 2), .int i, .int (nI 1), .int j, .int n] 8) [] I L := by
  obtain ⟨hV, hR, hKr, hk7, hT, hS, hSh⟩ := id hC
  dsimp only [o_copy] at h
  rw [if_neg (by rintro (q | q); exact q hs; exact q ht), nI_clamp (n := 2) (by omega), nI_clamp (n := 1) (by omega)] at h
  have q : I 30 1 = ln 2 ∧ (¬ ln 2 = -1 → I 30 2 = nI (sz 2)) ∧ ∀ j, j < 24 → L 31 j = it 2 j := hSh 2 (by omega)
  have p : I 28 1 = ln 1 ∧ (¬ ln 1 = -1 → I 28 2 = nI (sz 1)) ∧ ∀ j, j < 24 → L 29 j = it 1 j := hSh 1 (by omega)
  have zs := (hV.2.2.2.2 2 (by omega)).2
  have zt := (hV.2.2.2.2 1 (by omega)).2
  refine hG2 [] 100 0 _ _ _ _ (am_f (am_bp hs) (am_nt (am_bp ht) (And.intro (am_vin (N := 4) (n := 2) (by omega) rfl) (And.intro rfl (And.intro (by decide) (am_alS (s := 2) (o := 30) (by omega) rfl (And.intro (am_vin (N := 4) (n := 1) (by omega) rfl) (And.intro rfl (And.intro (by decide) (am_alS (s := 1) (o := 28) (by omega) rfl (And.intro (Or.inr (Or.inr (Or.inl rfl))) ?_)))))))))))
  by_cases l1 : ln 2 = -1
  · rw [if_pos (Or.inl l1)] at h
    exact am_nt (am_bp (q.1.trans l1)) (h I L hC)
  · refine am_nf (am_bn (fun z => l1 (q.1.symm.trans z))) (And.intro (Or.inr (Or.inl rfl)) ?_)
    by_cases l2 : ln 1 = -1
    · rw [if_pos (Or.inr l2)] at h
      exact am_f (am_bp (p.1.trans l2)) (h I L hC)
    · rw [if_neg (by rintro (z | z); exact l1 z; exact l2 z)] at h
      refine am_t (am_bn (fun z => l2 (p.1.symm.trans z))) ?_
      by_cases l3 : ln 2 = ln 1
      · rw [if_neg (fun z => z l3)] at h
        refine am_t (show I 30 1 = I 28 1 from q.1.trans (l3.trans p.1.symm)) (And.intro (Or.inr (Or.inr (Or.inl rfl))) ?_)
        rw [am_has zs (q.2.1 l1)]
        have br := @o_bars_ran ln sz 2 (ln 1) i n l1 l3
        have cr := @o_bars_ran ln sz 1 (ln 2) j n l2 l3.symm
        by_cases hi : 0 ≤ i.toInt ∧ 0 ≤ n.toInt ∧ i.toInt + n.toInt ≤ (sz 2 : Int)
        · refine am_f (am_bp hi) (And.intro (Or.inr (Or.inl rfl)) ?_)
          rw [am_has zt (p.2.1 l2)]
          by_cases hj : 0 ≤ j.toInt ∧ 0 ≤ n.toInt ∧ j.toInt + n.toInt ≤ (sz 1 : Int)
          · rw [if_neg (by rintro (z | z); exact z (br.mpr hi); exact z (cr.mpr hj))] at h
            have ci := am_clp hi.1
            have cj := am_clp hj.1
            have cn := am_clp hi.2.1
            have bi : i.toNatClampNeg + n.toNatClampNeg ≤ 24 := by omega
            have bj : j.toNatClampNeg + n.toNatClampNeg ≤ 24 := by omega
            refine am_nt (am_bp hj) (And.intro (am_n0 hi.1) (And.intro (am_n0 hj.1) (And.intro (am_n0 hi.2.1) (And.intro bi (And.intro bj ?_)))))
            show post (some (.int n)) I (am_cpj L 31 29 i.toNatClampNeg j.toNatClampNeg n.toNatClampNeg)
            refine h _ _ (CR_sh (s := 1) hC (by omega) (fun _ _ => rfl) (fun c hc => am_cpj_o hc) (hV.2.2.2.2 1 (by omega)) (fun u hu => ⟨rfl, rfl, o_upd_n hu⟩) p.1 p.2.1 (fun k hk => ?_))
            rw [o_upd_e, am_cpj_r]
            unfold o_cpy
            by_cases e : j.toNatClampNeg ≤ k ∧ k < j.toNatClampNeg + n.toNatClampNeg
            · rw [if_pos ⟨rfl, e⟩, if_pos e]; exact q.2.2 _ (by omega)
            · rw [if_neg (fun z => e z.2), if_neg e]; exact p.2.2 k hk
          · rw [if_pos (Or.inr (fun z => hj (cr.mp z)))] at h
            exact am_nf (am_bn hj) (h I L hC)
        · rw [if_pos (Or.inl (fun z => hi (br.mp z)))] at h
          exact am_t (am_bn hi) (h I L hC)
      · rw [if_pos l3] at h
        exact am_f (show ¬ I 30 1 = I 28 1 from fun z => l3 (q.1.symm.trans (z.trans p.1))) (h I L hC)
set_option maxRecDepth 100000 in
set_option maxHeartbeats 4000000 in
theorem am_copy_2_2 {I : am_I} {L : am_J} {post : am_Po} {G2 : am_G} (hG2 : ∀ (cuts : List (Nat × List Nat)) (n pc : Nat) (ls : am_Lv) (st : List Value) (I : am_I) (L : am_J), am_ev am_SX sp_RP_copy false post k_RP_copy cuts G2 n pc ls st I L → G2 pc ls st I L) {i j n : Int32} {G K : Nat → Nat} {hk : Bool} {tn : Nat} {tt : Nat → Nat} {ln : Nat → Int32} {sz : Nat → Nat} {it : Nat → Nat → Int64}
    (hs : 0 ≤ nI 2 ∧ nI 2 < 4) (ht : 0 ≤ nI 2 ∧ nI 2 < 4) (hC : CR I L (G, K, hk, tn, tt, ln, sz, it)) (h : ∀ (I2 : am_I) (L2 : am_J), CR I2 L2 (o_copy (G, K, hk, tn, tt, ln, sz, it) (nI 2) i (nI 2) j n).2 → post (some (.int (o_copy (G, K, hk, tn, tt, ln, sz, it) (nI 2) i (nI 2) j n).1)) I2 L2) : G2 0 (am_ent [.ref 0, .int (nI 2), .int i, .int (nI 2), .int j, .int n] 8) [] I L := by
  obtain ⟨hV, hR, hKr, hk7, hT, hS, hSh⟩ := id hC
  dsimp only [o_copy] at h
  rw [if_neg (by rintro (q | q); exact q hs; exact q ht), nI_clamp (n := 2) (by omega)] at h
  have q : I 30 1 = ln 2 ∧ (¬ ln 2 = -1 → I 30 2 = nI (sz 2)) ∧ ∀ j, j < 24 → L 31 j = it 2 j := hSh 2 (by omega)
  have p : I 30 1 = ln 2 ∧ (¬ ln 2 = -1 → I 30 2 = nI (sz 2)) ∧ ∀ j, j < 24 → L 31 j = it 2 j := hSh 2 (by omega)
  have zs := (hV.2.2.2.2 2 (by omega)).2
  have zt := (hV.2.2.2.2 2 (by omega)).2
  refine hG2 [] 100 0 _ _ _ _ (am_f (am_bp hs) (am_nt (am_bp ht) (And.intro (am_vin (N := 4) (n := 2) (by omega) rfl) (And.intro rfl (And.intro (by decide) (am_alS (s := 2) (o := 30) (by omega) rfl (And.intro (am_vin (N := 4) (n := 2) (by omega) rfl) (And.intro rfl (And.intro (by decide) (am_alS (s := 2) (o := 30) (by omega) rfl (And.intro (Or.inr (Or.inr (Or.inl rfl))) ?_)))))))))))
  by_cases l1 : ln 2 = -1
  · rw [if_pos (Or.inl l1)] at h
    exact am_nt (am_bp (q.1.trans l1)) (h I L hC)
  · refine am_nf (am_bn (fun z => l1 (q.1.symm.trans z))) (And.intro (Or.inr (Or.inr (Or.inl rfl))) ?_)
    by_cases l2 : ln 2 = -1
    · rw [if_pos (Or.inr l2)] at h
      exact am_f (am_bp (p.1.trans l2)) (h I L hC)
    · rw [if_neg (by rintro (z | z); exact l1 z; exact l2 z)] at h
      refine am_t (am_bn (fun z => l2 (p.1.symm.trans z))) ?_
      by_cases l3 : ln 2 = ln 2
      · rw [if_neg (fun z => z l3)] at h
        refine am_t (show I 30 1 = I 30 1 from q.1.trans (l3.trans p.1.symm)) (And.intro (Or.inr (Or.inr (Or.inl rfl))) ?_)
        rw [am_has zs (q.2.1 l1)]
        have br := @o_bars_ran ln sz 2 (ln 2) i n l1 l3
        have cr := @o_bars_ran ln sz 2 (ln 2) j n l2 l3.symm
        by_cases hi : 0 ≤ i.toInt ∧ 0 ≤ n.toInt ∧ i.toInt + n.toInt ≤ (sz 2 : Int)
        · refine am_f (am_bp hi) (And.intro (Or.inr (Or.inr (Or.inl rfl))) ?_)
          rw [am_has zt (p.2.1 l2)]
          by_cases hj : 0 ≤ j.toInt ∧ 0 ≤ n.toInt ∧ j.toInt + n.toInt ≤ (sz 2 : Int)
          · rw [if_neg (by rintro (z | z); exact z (br.mpr hi); exact z (cr.mpr hj))] at h
            have ci := am_clp hi.1
            have cj := am_clp hj.1
            have cn := am_clp hi.2.1
            have bi : i.toNatClampNeg + n.toNatClampNeg ≤ 24 := by omega
            have bj : j.toNatClampNeg + n.toNatClampNeg ≤ 24 := by omega
            refine am_nt (am_bp hj) (And.intro (am_n0 hi.1) (And.intro (am_n0 hj.1) (And.intro (am_n0 hi.2.1) (And.intro bi (And.intro bj ?_)))))
            show post (some (.int n)) I (am_cpj L 31 31 i.toNatClampNeg j.toNatClampNeg n.toNatClampNeg)
            refine h _ _ (CR_sh (s := 2) hC (by omega) (fun _ _ => rfl) (fun c hc => am_cpj_o hc) (hV.2.2.2.2 2 (by omega)) (fun u hu => ⟨rfl, rfl, o_upd_n hu⟩) p.1 p.2.1 (fun k hk => ?_))
            rw [o_upd_e, am_cpj_r]
            unfold o_cpy
            by_cases e : j.toNatClampNeg ≤ k ∧ k < j.toNatClampNeg + n.toNatClampNeg
            · rw [if_pos ⟨rfl, e⟩, if_pos e]; exact q.2.2 _ (by omega)
            · rw [if_neg (fun z => e z.2), if_neg e]; exact p.2.2 k hk
          · rw [if_pos (Or.inr (fun z => hj (cr.mp z)))] at h
            exact am_nf (am_bn hj) (h I L hC)
        · rw [if_pos (Or.inl (fun z => hi (br.mp z)))] at h
          exact am_t (am_bn hi) (h I L hC)
      · rw [if_pos l3] at h
        exact am_f (show ¬ I 30 1 = I 30 1 from fun z => l3 (q.1.symm.trans (z.trans p.1))) (h I L hC)
set_option maxRecDepth 100000 in
set_option maxHeartbeats 4000000 in
theorem am_copy_2_3 {I : am_I} {L : am_J} {post : am_Po} {G2 : am_G} (hG2 : ∀ (cuts : List (Nat × List Nat)) (n pc : Nat) (ls : am_Lv) (st : List Value) (I : am_I) (L : am_J), am_ev am_SX sp_RP_copy false post k_RP_copy cuts G2 n pc ls st I L → G2 pc ls st I L) {i j n : Int32} {G K : Nat → Nat} {hk : Bool} {tn : Nat} {tt : Nat → Nat} {ln : Nat → Int32} {sz : Nat → Nat} {it : Nat → Nat → Int64}
    (hs : 0 ≤ nI 2 ∧ nI 2 < 4) (ht : 0 ≤ nI 3 ∧ nI 3 < 4) (hC : CR I L (G, K, hk, tn, tt, ln, sz, it)) (h : ∀ (I2 : am_I) (L2 : am_J), CR I2 L2 (o_copy (G, K, hk, tn, tt, ln, sz, it) (nI 2) i (nI 3) j n).2 → post (some (.int (o_copy (G, K, hk, tn, tt, ln, sz, it) (nI 2) i (nI 3) j n).1)) I2 L2) : G2 0 (am_ent [.ref 0, .int (nI 2), .int i, .int (nI 3), .int j, .int n] 8) [] I L := by
  obtain ⟨hV, hR, hKr, hk7, hT, hS, hSh⟩ := id hC
  dsimp only [o_copy] at h
  rw [if_neg (by rintro (q | q); exact q hs; exact q ht), nI_clamp (n := 2) (by omega), nI_clamp (n := 3) (by omega)] at h
  have q : I 30 1 = ln 2 ∧ (¬ ln 2 = -1 → I 30 2 = nI (sz 2)) ∧ ∀ j, j < 24 → L 31 j = it 2 j := hSh 2 (by omega)
  have p : I 32 1 = ln 3 ∧ (¬ ln 3 = -1 → I 32 2 = nI (sz 3)) ∧ ∀ j, j < 24 → L 33 j = it 3 j := hSh 3 (by omega)
  have zs := (hV.2.2.2.2 2 (by omega)).2
  have zt := (hV.2.2.2.2 3 (by omega)).2
  refine hG2 [] 100 0 _ _ _ _ (am_f (am_bp hs) (am_nt (am_bp ht) (And.intro (am_vin (N := 4) (n := 2) (by omega) rfl) (And.intro rfl (And.intro (by decide) (am_alS (s := 2) (o := 30) (by omega) rfl (And.intro (am_vin (N := 4) (n := 3) (by omega) rfl) (And.intro rfl (And.intro (by decide) (am_alS (s := 3) (o := 32) (by omega) rfl (And.intro (Or.inr (Or.inr (Or.inl rfl))) ?_)))))))))))
  by_cases l1 : ln 2 = -1
  · rw [if_pos (Or.inl l1)] at h
    exact am_nt (am_bp (q.1.trans l1)) (h I L hC)
  · refine am_nf (am_bn (fun z => l1 (q.1.symm.trans z))) (And.intro (Or.inr (Or.inr (Or.inr rfl))) ?_)
    by_cases l2 : ln 3 = -1
    · rw [if_pos (Or.inr l2)] at h
      exact am_f (am_bp (p.1.trans l2)) (h I L hC)
    · rw [if_neg (by rintro (z | z); exact l1 z; exact l2 z)] at h
      refine am_t (am_bn (fun z => l2 (p.1.symm.trans z))) ?_
      by_cases l3 : ln 2 = ln 3
      · rw [if_neg (fun z => z l3)] at h
        refine am_t (show I 30 1 = I 32 1 from q.1.trans (l3.trans p.1.symm)) (And.intro (Or.inr (Or.inr (Or.inl rfl))) ?_)
        rw [am_has zs (q.2.1 l1)]
        have br := @o_bars_ran ln sz 2 (ln 3) i n l1 l3
        have cr := @o_bars_ran ln sz 3 (ln 2) j n l2 l3.symm
        by_cases hi : 0 ≤ i.toInt ∧ 0 ≤ n.toInt ∧ i.toInt + n.toInt ≤ (sz 2 : Int)
        · refine am_f (am_bp hi) (And.intro (Or.inr (Or.inr (Or.inr rfl))) ?_)
          rw [am_has zt (p.2.1 l2)]
          by_cases hj : 0 ≤ j.toInt ∧ 0 ≤ n.toInt ∧ j.toInt + n.toInt ≤ (sz 3 : Int)
          · rw [if_neg (by rintro (z | z); exact z (br.mpr hi); exact z (cr.mpr hj))] at h
            have ci := am_clp hi.1
            have cj := am_clp hj.1
            have cn := am_clp hi.2.1
            have bi : i.toNatClampNeg + n.toNatClampNeg ≤ 24 := by omega
            have bj : j.toNatClampNeg + n.toNatClampNeg ≤ 24 := by omega
            refine am_nt (am_bp hj) (And.intro (am_n0 hi.1) (And.intro (am_n0 hj.1) (And.intro (am_n0 hi.2.1) (And.intro bi (And.intro bj ?_)))))
            show post (some (.int n)) I (am_cpj L 31 33 i.toNatClampNeg j.toNatClampNeg n.toNatClampNeg)
            refine h _ _ (CR_sh (s := 3) hC (by omega) (fun _ _ => rfl) (fun c hc => am_cpj_o hc) (hV.2.2.2.2 3 (by omega)) (fun u hu => ⟨rfl, rfl, o_upd_n hu⟩) p.1 p.2.1 (fun k hk => ?_))
            rw [o_upd_e, am_cpj_r]
            unfold o_cpy
            by_cases e : j.toNatClampNeg ≤ k ∧ k < j.toNatClampNeg + n.toNatClampNeg
            · rw [if_pos ⟨rfl, e⟩, if_pos e]; exact q.2.2 _ (by omega)
            · rw [if_neg (fun z => e z.2), if_neg e]; exact p.2.2 k hk
          · rw [if_pos (Or.inr (fun z => hj (cr.mp z)))] at h
            exact am_nf (am_bn hj) (h I L hC)
        · rw [if_pos (Or.inl (fun z => hi (br.mp z)))] at h
          exact am_t (am_bn hi) (h I L hC)
      · rw [if_pos l3] at h
        exact am_f (show ¬ I 30 1 = I 32 1 from fun z => l3 (q.1.symm.trans (z.trans p.1))) (h I L hC)
set_option maxRecDepth 100000 in
set_option maxHeartbeats 4000000 in
theorem am_copy_3_0 {I : am_I} {L : am_J} {post : am_Po} {G2 : am_G} (hG2 : ∀ (cuts : List (Nat × List Nat)) (n pc : Nat) (ls : am_Lv) (st : List Value) (I : am_I) (L : am_J), am_ev am_SX sp_RP_copy false post k_RP_copy cuts G2 n pc ls st I L → G2 pc ls st I L) {i j n : Int32} {G K : Nat → Nat} {hk : Bool} {tn : Nat} {tt : Nat → Nat} {ln : Nat → Int32} {sz : Nat → Nat} {it : Nat → Nat → Int64}
    (hs : 0 ≤ nI 3 ∧ nI 3 < 4) (ht : 0 ≤ nI 0 ∧ nI 0 < 4) (hC : CR I L (G, K, hk, tn, tt, ln, sz, it)) (h : ∀ (I2 : am_I) (L2 : am_J), CR I2 L2 (o_copy (G, K, hk, tn, tt, ln, sz, it) (nI 3) i (nI 0) j n).2 → post (some (.int (o_copy (G, K, hk, tn, tt, ln, sz, it) (nI 3) i (nI 0) j n).1)) I2 L2) : G2 0 (am_ent [.ref 0, .int (nI 3), .int i, .int (nI 0), .int j, .int n] 8) [] I L := by
  obtain ⟨hV, hR, hKr, hk7, hT, hS, hSh⟩ := id hC
  dsimp only [o_copy] at h
  rw [if_neg (by rintro (q | q); exact q hs; exact q ht), nI_clamp (n := 3) (by omega), nI_clamp (n := 0) (by omega)] at h
  have q : I 32 1 = ln 3 ∧ (¬ ln 3 = -1 → I 32 2 = nI (sz 3)) ∧ ∀ j, j < 24 → L 33 j = it 3 j := hSh 3 (by omega)
  have p : I 26 1 = ln 0 ∧ (¬ ln 0 = -1 → I 26 2 = nI (sz 0)) ∧ ∀ j, j < 24 → L 27 j = it 0 j := hSh 0 (by omega)
  have zs := (hV.2.2.2.2 3 (by omega)).2
  have zt := (hV.2.2.2.2 0 (by omega)).2
  refine hG2 [] 100 0 _ _ _ _ (am_f (am_bp hs) (am_nt (am_bp ht) (And.intro (am_vin (N := 4) (n := 3) (by omega) rfl) (And.intro rfl (And.intro (by decide) (am_alS (s := 3) (o := 32) (by omega) rfl (And.intro (am_vin (N := 4) (n := 0) (by omega) rfl) (And.intro rfl (And.intro (by decide) (am_alS (s := 0) (o := 26) (by omega) rfl (And.intro (Or.inr (Or.inr (Or.inr rfl))) ?_)))))))))))
  by_cases l1 : ln 3 = -1
  · rw [if_pos (Or.inl l1)] at h
    exact am_nt (am_bp (q.1.trans l1)) (h I L hC)
  · refine am_nf (am_bn (fun z => l1 (q.1.symm.trans z))) (And.intro (Or.inl rfl) ?_)
    by_cases l2 : ln 0 = -1
    · rw [if_pos (Or.inr l2)] at h
      exact am_f (am_bp (p.1.trans l2)) (h I L hC)
    · rw [if_neg (by rintro (z | z); exact l1 z; exact l2 z)] at h
      refine am_t (am_bn (fun z => l2 (p.1.symm.trans z))) ?_
      by_cases l3 : ln 3 = ln 0
      · rw [if_neg (fun z => z l3)] at h
        refine am_t (show I 32 1 = I 26 1 from q.1.trans (l3.trans p.1.symm)) (And.intro (Or.inr (Or.inr (Or.inr rfl))) ?_)
        rw [am_has zs (q.2.1 l1)]
        have br := @o_bars_ran ln sz 3 (ln 0) i n l1 l3
        have cr := @o_bars_ran ln sz 0 (ln 3) j n l2 l3.symm
        by_cases hi : 0 ≤ i.toInt ∧ 0 ≤ n.toInt ∧ i.toInt + n.toInt ≤ (sz 3 : Int)
        · refine am_f (am_bp hi) (And.intro (Or.inl rfl) ?_)
          rw [am_has zt (p.2.1 l2)]
          by_cases hj : 0 ≤ j.toInt ∧ 0 ≤ n.toInt ∧ j.toInt + n.toInt ≤ (sz 0 : Int)
          · rw [if_neg (by rintro (z | z); exact z (br.mpr hi); exact z (cr.mpr hj))] at h
            have ci := am_clp hi.1
            have cj := am_clp hj.1
            have cn := am_clp hi.2.1
            have bi : i.toNatClampNeg + n.toNatClampNeg ≤ 24 := by omega
            have bj : j.toNatClampNeg + n.toNatClampNeg ≤ 24 := by omega
            refine am_nt (am_bp hj) (And.intro (am_n0 hi.1) (And.intro (am_n0 hj.1) (And.intro (am_n0 hi.2.1) (And.intro bi (And.intro bj ?_)))))
            show post (some (.int n)) I (am_cpj L 33 27 i.toNatClampNeg j.toNatClampNeg n.toNatClampNeg)
            refine h _ _ (CR_sh (s := 0) hC (by omega) (fun _ _ => rfl) (fun c hc => am_cpj_o hc) (hV.2.2.2.2 0 (by omega)) (fun u hu => ⟨rfl, rfl, o_upd_n hu⟩) p.1 p.2.1 (fun k hk => ?_))
            rw [o_upd_e, am_cpj_r]
            unfold o_cpy
            by_cases e : j.toNatClampNeg ≤ k ∧ k < j.toNatClampNeg + n.toNatClampNeg
            · rw [if_pos ⟨rfl, e⟩, if_pos e]; exact q.2.2 _ (by omega)
            · rw [if_neg (fun z => e z.2), if_neg e]; exact p.2.2 k hk
          · rw [if_pos (Or.inr (fun z => hj (cr.mp z)))] at h
            exact am_nf (am_bn hj) (h I L hC)
        · rw [if_pos (Or.inl (fun z => hi (br.mp z)))] at h
          exact am_t (am_bn hi) (h I L hC)
      · rw [if_pos l3] at h
        exact am_f (show ¬ I 32 1 = I 26 1 from fun z => l3 (q.1.symm.trans (z.trans p.1))) (h I L hC)
set_option maxRecDepth 100000 in
set_option maxHeartbeats 4000000 in
theorem am_copy_3_1 {I : am_I} {L : am_J} {post : am_Po} {G2 : am_G} (hG2 : ∀ (cuts : List (Nat × List Nat)) (n pc : Nat) (ls : am_Lv) (st : List Value) (I : am_I) (L : am_J), am_ev am_SX sp_RP_copy false post k_RP_copy cuts G2 n pc ls st I L → G2 pc ls st I L) {i j n : Int32} {G K : Nat → Nat} {hk : Bool} {tn : Nat} {tt : Nat → Nat} {ln : Nat → Int32} {sz : Nat → Nat} {it : Nat → Nat → Int64}
    (hs : 0 ≤ nI 3 ∧ nI 3 < 4) (ht : 0 ≤ nI 1 ∧ nI 1 < 4) (hC : CR I L (G, K, hk, tn, tt, ln, sz, it)) (h : ∀ (I2 : am_I) (L2 : am_J), CR I2 L2 (o_copy (G, K, hk, tn, tt, ln, sz, it) (nI 3) i (nI 1) j n).2 → post (some (.int (o_copy (G, K, hk, tn, tt, ln, sz, it) (nI 3) i (nI 1) j n).1)) I2 L2) : G2 0 (am_ent [.ref 0, .int (nI 3), .int i, .int (nI 1), .int j, .int n] 8) [] I L := by
  obtain ⟨hV, hR, hKr, hk7, hT, hS, hSh⟩ := id hC
  dsimp only [o_copy] at h
  rw [if_neg (by rintro (q | q); exact q hs; exact q ht), nI_clamp (n := 3) (by omega), nI_clamp (n := 1) (by omega)] at h
  have q : I 32 1 = ln 3 ∧ (¬ ln 3 = -1 → I 32 2 = nI (sz 3)) ∧ ∀ j, j < 24 → L 33 j = it 3 j := hSh 3 (by omega)
  have p : I 28 1 = ln 1 ∧ (¬ ln 1 = -1 → I 28 2 = nI (sz 1)) ∧ ∀ j, j < 24 → L 29 j = it 1 j := hSh 1 (by omega)
  have zs := (hV.2.2.2.2 3 (by omega)).2
  have zt := (hV.2.2.2.2 1 (by omega)).2
  refine hG2 [] 100 0 _ _ _ _ (am_f (am_bp hs) (am_nt (am_bp ht) (And.intro (am_vin (N := 4) (n := 3) (by omega) rfl) (And.intro rfl (And.intro (by decide) (am_alS (s := 3) (o := 32) (by omega) rfl (And.intro (am_vin (N := 4) (n := 1) (by omega) rfl) (And.intro rfl (And.intro (by decide) (am_alS (s := 1) (o := 28) (by omega) rfl (And.intro (Or.inr (Or.inr (Or.inr rfl))) ?_)))))))))))
  by_cases l1 : ln 3 = -1
  · rw [if_pos (Or.inl l1)] at h
    exact am_nt (am_bp (q.1.trans l1)) (h I L hC)
  · refine am_nf (am_bn (fun z => l1 (q.1.symm.trans z))) (And.intro (Or.inr (Or.inl rfl)) ?_)
    by_cases l2 : ln 1 = -1
    · rw [if_pos (Or.inr l2)] at h
      exact am_f (am_bp (p.1.trans l2)) (h I L hC)
    · rw [if_neg (by rintro (z | z); exact l1 z; exact l2 z)] at h
      refine am_t (am_bn (fun z => l2 (p.1.symm.trans z))) ?_
      by_cases l3 : ln 3 = ln 1
      · rw [if_neg (fun z => z l3)] at h
        refine am_t (show I 32 1 = I 28 1 from q.1.trans (l3.trans p.1.symm)) (And.intro (Or.inr (Or.inr (Or.inr rfl))) ?_)
        rw [am_has zs (q.2.1 l1)]
        have br := @o_bars_ran ln sz 3 (ln 1) i n l1 l3
        have cr := @o_bars_ran ln sz 1 (ln 3) j n l2 l3.symm
        by_cases hi : 0 ≤ i.toInt ∧ 0 ≤ n.toInt ∧ i.toInt + n.toInt ≤ (sz 3 : Int)
        · refine am_f (am_bp hi) (And.intro (Or.inr (Or.inl rfl)) ?_)
          rw [am_has zt (p.2.1 l2)]
          by_cases hj : 0 ≤ j.toInt ∧ 0 ≤ n.toInt ∧ j.toInt + n.toInt ≤ (sz 1 : Int)
          · rw [if_neg (by rintro (z | z); exact z (br.mpr hi); exact z (cr.mpr hj))] at h
            have ci := am_clp hi.1
            have cj := am_clp hj.1
            have cn := am_clp hi.2.1
            have bi : i.toNatClampNeg + n.toNatClampNeg ≤ 24 := by omega
            have bj : j.toNatClampNeg + n.toNatClampNeg ≤ 24 := by omega
            refine am_nt (am_bp hj) (And.intro (am_n0 hi.1) (And.intro (am_n0 hj.1) (And.intro (am_n0 hi.2.1) (And.intro bi (And.intro bj ?_)))))
            show post (some (.int n)) I (am_cpj L 33 29 i.toNatClampNeg j.toNatClampNeg n.toNatClampNeg)
            refine h _ _ (CR_sh (s := 1) hC (by omega) (fun _ _ => rfl) (fun c hc => am_cpj_o hc) (hV.2.2.2.2 1 (by omega)) (fun u hu => ⟨rfl, rfl, o_upd_n hu⟩) p.1 p.2.1 (fun k hk => ?_))
            rw [o_upd_e, am_cpj_r]
            unfold o_cpy
            by_cases e : j.toNatClampNeg ≤ k ∧ k < j.toNatClampNeg + n.toNatClampNeg
            · rw [if_pos ⟨rfl, e⟩, if_pos e]; exact q.2.2 _ (by omega)
            · rw [if_neg (fun z => e z.2), if_neg e]; exact p.2.2 k hk
          · rw [if_pos (Or.inr (fun z => hj (cr.mp z)))] at h
            exact am_nf (am_bn hj) (h I L hC)
        · rw [if_pos (Or.inl (fun z => hi (br.mp z)))] at h
          exact am_t (am_bn hi) (h I L hC)
      · rw [if_pos l3] at h
        exact am_f (show ¬ I 32 1 = I 28 1 from fun z => l3 (q.1.symm.trans (z.trans p.1))) (h I L hC)
set_option maxRecDepth 100000 in
set_option maxHeartbeats 4000000 in
theorem am_copy_3_2 {I : am_I} {L : am_J} {post : am_Po} {G2 : am_G} (hG2 : ∀ (cuts : List (Nat × List Nat)) (n pc : Nat) (ls : am_Lv) (st : List Value) (I : am_I) (L : am_J), am_ev am_SX sp_RP_copy false post k_RP_copy cuts G2 n pc ls st I L → G2 pc ls st I L) {i j n : Int32} {G K : Nat → Nat} {hk : Bool} {tn : Nat} {tt : Nat → Nat} {ln : Nat → Int32} {sz : Nat → Nat} {it : Nat → Nat → Int64}
    (hs : 0 ≤ nI 3 ∧ nI 3 < 4) (ht : 0 ≤ nI 2 ∧ nI 2 < 4) (hC : CR I L (G, K, hk, tn, tt, ln, sz, it)) (h : ∀ (I2 : am_I) (L2 : am_J), CR I2 L2 (o_copy (G, K, hk, tn, tt, ln, sz, it) (nI 3) i (nI 2) j n).2 → post (some (.int (o_copy (G, K, hk, tn, tt, ln, sz, it) (nI 3) i (nI 2) j n).1)) I2 L2) : G2 0 (am_ent [.ref 0, .int (nI 3), .int i, .int (nI 2), .int j, .int n] 8) [] I L := by
  obtain ⟨hV, hR, hKr, hk7, hT, hS, hSh⟩ := id hC
  dsimp only [o_copy] at h
  rw [if_neg (by rintro (q | q); exact q hs; exact q ht), nI_clamp (n := 3) (by omega), nI_clamp (n := 2) (by omega)] at h
  have q : I 32 1 = ln 3 ∧ (¬ ln 3 = -1 → I 32 2 = nI (sz 3)) ∧ ∀ j, j < 24 → L 33 j = it 3 j := hSh 3 (by omega)
  have p : I 30 1 = ln 2 ∧ (¬ ln 2 = -1 → I 30 2 = nI (sz 2)) ∧ ∀ j, j < 24 → L 31 j = it 2 j := hSh 2 (by omega)
  have zs := (hV.2.2.2.2 3 (by omega)).2
  have zt := (hV.2.2.2.2 2 (by omega)).2
  refine hG2 [] 100 0 _ _ _ _ (am_f (am_bp hs) (am_nt (am_bp ht) (And.intro (am_vin (N := 4) (n := 3) (by omega) rfl) (And.intro rfl (And.intro (by decide) (am_alS (s := 3) (o := 32) (by omega) rfl (And.intro (am_vin (N := 4) (n := 2) (by omega) rfl) (And.intro rfl (And.intro (by decide) (am_alS (s := 2) (o := 30) (by omega) rfl (And.intro (Or.inr (Or.inr (Or.inr rfl))) ?_)))))))))))
  by_cases l1 : ln 3 = -1
  · rw [if_pos (Or.inl l1)] at h
    exact am_nt (am_bp (q.1.trans l1)) (h I L hC)
  · refine am_nf (am_bn (fun z => l1 (q.1.symm.trans z))) (And.intro (Or.inr (Or.inr (Or.inl rfl))) ?_)
    by_cases l2 : ln 2 = -1
    · rw [if_pos (Or.inr l2)] at h
      exact am_f (am_bp (p.1.trans l2)) (h I L hC)
    · rw [if_neg (by rintro (z | z); exact l1 z; exact l2 z)] at h
      refine am_t (am_bn (fun z => l2 (p.1.symm.trans z))) ?_
      by_cases l3 : ln 3 = ln 2
      · rw [if_neg (fun z => z l3)] at h
        refine am_t (show I 32 1 = I 30 1 from q.1.trans (l3.trans p.1.symm)) (And.intro (Or.inr (Or.inr (Or.inr rfl))) ?_)
        rw [am_has zs (q.2.1 l1)]
        have br := @o_bars_ran ln sz 3 (ln 2) i n l1 l3
        have cr := @o_bars_ran ln sz 2 (ln 3) j n l2 l3.symm
        by_cases hi : 0 ≤ i.toInt ∧ 0 ≤ n.toInt ∧ i.toInt + n.toInt ≤ (sz 3 : Int)
        · refine am_f (am_bp hi) (And.intro (Or.inr (Or.inr (Or.inl rfl))) ?_)
          rw [am_has zt (p.2.1 l2)]
          by_cases hj : 0 ≤ j.toInt ∧ 0 ≤ n.toInt ∧ j.toInt + n.toInt ≤ (sz 2 : Int)
          · rw [if_neg (by rintro (z | z); exact z (br.mpr hi); exact z (cr.mpr hj))] at h
            have ci := am_clp hi.1
            have cj := am_clp hj.1
            have cn := am_clp hi.2.1
            have bi : i.toNatClampNeg + n.toNatClampNeg ≤ 24 := by omega
            have bj : j.toNatClampNeg + n.toNatClampNeg ≤ 24 := by omega
            refine am_nt (am_bp hj) (And.intro (am_n0 hi.1) (And.intro (am_n0 hj.1) (And.intro (am_n0 hi.2.1) (And.intro bi (And.intro bj ?_)))))
            show post (some (.int n)) I (am_cpj L 33 31 i.toNatClampNeg j.toNatClampNeg n.toNatClampNeg)
            refine h _ _ (CR_sh (s := 2) hC (by omega) (fun _ _ => rfl) (fun c hc => am_cpj_o hc) (hV.2.2.2.2 2 (by omega)) (fun u hu => ⟨rfl, rfl, o_upd_n hu⟩) p.1 p.2.1 (fun k hk => ?_))
            rw [o_upd_e, am_cpj_r]
            unfold o_cpy
            by_cases e : j.toNatClampNeg ≤ k ∧ k < j.toNatClampNeg + n.toNatClampNeg
            · rw [if_pos ⟨rfl, e⟩, if_pos e]; exact q.2.2 _ (by omega)
            · rw [if_neg (fun z => e z.2), if_neg e]; exact p.2.2 k hk
          · rw [if_pos (Or.inr (fun z => hj (cr.mp z)))] at h
            exact am_nf (am_bn hj) (h I L hC)
        · rw [if_pos (Or.inl (fun z => hi (br.mp z)))] at h
          exact am_t (am_bn hi) (h I L hC)
      · rw [if_pos l3] at h
        exact am_f (show ¬ I 32 1 = I 30 1 from fun z => l3 (q.1.symm.trans (z.trans p.1))) (h I L hC)
set_option maxRecDepth 100000 in
set_option maxHeartbeats 4000000 in
theorem am_copy_3_3 {I : am_I} {L : am_J} {post : am_Po} {G2 : am_G} (hG2 : ∀ (cuts : List (Nat × List Nat)) (n pc : Nat) (ls : am_Lv) (st : List Value) (I : am_I) (L : am_J), am_ev am_SX sp_RP_copy false post k_RP_copy cuts G2 n pc ls st I L → G2 pc ls st I L) {i j n : Int32} {G K : Nat → Nat} {hk : Bool} {tn : Nat} {tt : Nat → Nat} {ln : Nat → Int32} {sz : Nat → Nat} {it : Nat → Nat → Int64}
    (hs : 0 ≤ nI 3 ∧ nI 3 < 4) (ht : 0 ≤ nI 3 ∧ nI 3 < 4) (hC : CR I L (G, K, hk, tn, tt, ln, sz, it)) (h : ∀ (I2 : am_I) (L2 : am_J), CR I2 L2 (o_copy (G, K, hk, tn, tt, ln, sz, it) (nI 3) i (nI 3) j n).2 → post (some (.int (o_copy (G, K, hk, tn, tt, ln, sz, it) (nI 3) i (nI 3) j n).1)) I2 L2) : G2 0 (am_ent [.ref 0, .int (nI 3), .int i, .int (nI 3), .int j, .int n] 8) [] I L := by
  obtain ⟨hV, hR, hKr, hk7, hT, hS, hSh⟩ := id hC
  dsimp only [o_copy] at h
  rw [if_neg (by rintro (q | q); exact q hs; exact q ht), nI_clamp (n := 3) (by omega)] at h
  have q : I 32 1 = ln 3 ∧ (¬ ln 3 = -1 → I 32 2 = nI (sz 3)) ∧ ∀ j, j < 24 → L 33 j = it 3 j := hSh 3 (by omega)
  have p : I 32 1 = ln 3 ∧ (¬ ln 3 = -1 → I 32 2 = nI (sz 3)) ∧ ∀ j, j < 24 → L 33 j = it 3 j := hSh 3 (by omega)
  have zs := (hV.2.2.2.2 3 (by omega)).2
  have zt := (hV.2.2.2.2 3 (by omega)).2
  refine hG2 [] 100 0 _ _ _ _ (am_f (am_bp hs) (am_nt (am_bp ht) (And.intro (am_vin (N := 4) (n := 3) (by omega) rfl) (And.intro rfl (And.intro (by decide) (am_alS (s := 3) (o := 32) (by omega) rfl (And.intro (am_vin (N := 4) (n := 3) (by omega) rfl) (And.intro rfl (And.intro (by decide) (am_alS (s := 3) (o := 32) (by omega) rfl (And.intro (Or.inr (Or.inr (Or.inr rfl))) ?_)))))))))))
  by_cases l1 : ln 3 = -1
  · rw [if_pos (Or.inl l1)] at h
    exact am_nt (am_bp (q.1.trans l1)) (h I L hC)
  · refine am_nf (am_bn (fun z => l1 (q.1.symm.trans z))) (And.intro (Or.inr (Or.inr (Or.inr rfl))) ?_)
    by_cases l2 : ln 3 = -1
    · rw [if_pos (Or.inr l2)] at h
      exact am_f (am_bp (p.1.trans l2)) (h I L hC)
    · rw [if_neg (by rintro (z | z); exact l1 z; exact l2 z)] at h
      refine am_t (am_bn (fun z => l2 (p.1.symm.trans z))) ?_
      by_cases l3 : ln 3 = ln 3
      · rw [if_neg (fun z => z l3)] at h
        refine am_t (show I 32 1 = I 32 1 from q.1.trans (l3.trans p.1.symm)) (And.intro (Or.inr (Or.inr (Or.inr rfl))) ?_)
        rw [am_has zs (q.2.1 l1)]
        have br := @o_bars_ran ln sz 3 (ln 3) i n l1 l3
        have cr := @o_bars_ran ln sz 3 (ln 3) j n l2 l3.symm
        by_cases hi : 0 ≤ i.toInt ∧ 0 ≤ n.toInt ∧ i.toInt + n.toInt ≤ (sz 3 : Int)
        · refine am_f (am_bp hi) (And.intro (Or.inr (Or.inr (Or.inr rfl))) ?_)
          rw [am_has zt (p.2.1 l2)]
          by_cases hj : 0 ≤ j.toInt ∧ 0 ≤ n.toInt ∧ j.toInt + n.toInt ≤ (sz 3 : Int)
          · rw [if_neg (by rintro (z | z); exact z (br.mpr hi); exact z (cr.mpr hj))] at h
            have ci := am_clp hi.1
            have cj := am_clp hj.1
            have cn := am_clp hi.2.1
            have bi : i.toNatClampNeg + n.toNatClampNeg ≤ 24 := by omega
            have bj : j.toNatClampNeg + n.toNatClampNeg ≤ 24 := by omega
            refine am_nt (am_bp hj) (And.intro (am_n0 hi.1) (And.intro (am_n0 hj.1) (And.intro (am_n0 hi.2.1) (And.intro bi (And.intro bj ?_)))))
            show post (some (.int n)) I (am_cpj L 33 33 i.toNatClampNeg j.toNatClampNeg n.toNatClampNeg)
            refine h _ _ (CR_sh (s := 3) hC (by omega) (fun _ _ => rfl) (fun c hc => am_cpj_o hc) (hV.2.2.2.2 3 (by omega)) (fun u hu => ⟨rfl, rfl, o_upd_n hu⟩) p.1 p.2.1 (fun k hk => ?_))
            rw [o_upd_e, am_cpj_r]
            unfold o_cpy
            by_cases e : j.toNatClampNeg ≤ k ∧ k < j.toNatClampNeg + n.toNatClampNeg
            · rw [if_pos ⟨rfl, e⟩, if_pos e]; exact q.2.2 _ (by omega)
            · rw [if_neg (fun z => e z.2), if_neg e]; exact p.2.2 k hk
          · rw [if_pos (Or.inr (fun z => hj (cr.mp z)))] at h
            exact am_nf (am_bn hj) (h I L hC)
        · rw [if_pos (Or.inl (fun z => hi (br.mp z)))] at h
          exact am_t (am_bn hi) (h I L hC)
      · rw [if_pos l3] at h
        exact am_f (show ¬ I 32 1 = I 32 1 from fun z => l3 (q.1.symm.trans (z.trans p.1))) (h I L hC)
set_option maxRecDepth 100000 in
set_option maxHeartbeats 4000000 in
theorem ok_RP_copy : am_Ok am_SX sp_RP_copy false k_RP_copy 8 T_RP_copy := by
  intro vs I L post h
  unfold T_RP_copy at h
  split at h
  · rename_i o s i t j n
    obtain ⟨rfl, A, hC, h⟩ := h
    refine ⟨Nat.le_of_ble_eq_true rfl, fun G2 hG2 => ?_⟩
    obtain ⟨G, K, hk, tn, tt, ln, sz, it⟩ := A
    obtain ⟨hV, hR, hKr, hk7, hT, hS, hSh⟩ := id hC
    by_cases hs : 0 ≤ s ∧ s < 4
    · by_cases ht : 0 ≤ t ∧ t < 4
      · obtain ⟨x, hx, rfl⟩ := am_rng (n := 4) (by omega) hs.1 hs.2
        obtain ⟨y, hy, rfl⟩ := am_rng (n := 4) (by omega) ht.1 ht.2
        rcases (show x = 0 ∨ x = 1 ∨ x = 2 ∨ x = 3 by omega) with rfl | rfl | rfl | rfl
        · rcases (show y = 0 ∨ y = 1 ∨ y = 2 ∨ y = 3 by omega) with rfl | rfl | rfl | rfl
          · exact am_copy_0_0 hG2 hs ht hC h
          · exact am_copy_0_1 hG2 hs ht hC h
          · exact am_copy_0_2 hG2 hs ht hC h
          · exact am_copy_0_3 hG2 hs ht hC h
        · rcases (show y = 0 ∨ y = 1 ∨ y = 2 ∨ y = 3 by omega) with rfl | rfl | rfl | rfl
          · exact am_copy_1_0 hG2 hs ht hC h
          · exact am_copy_1_1 hG2 hs ht hC h
          · exact am_copy_1_2 hG2 hs ht hC h
          · exact am_copy_1_3 hG2 hs ht hC h
        · rcases (show y = 0 ∨ y = 1 ∨ y = 2 ∨ y = 3 by omega) with rfl | rfl | rfl | rfl
          · exact am_copy_2_0 hG2 hs ht hC h
          · exact am_copy_2_1 hG2 hs ht hC h
          · exact am_copy_2_2 hG2 hs ht hC h
          · exact am_copy_2_3 hG2 hs ht hC h
        · rcases (show y = 0 ∨ y = 1 ∨ y = 2 ∨ y = 3 by omega) with rfl | rfl | rfl | rfl
          · exact am_copy_3_0 hG2 hs ht hC h
          · exact am_copy_3_1 hG2 hs ht hC h
          · exact am_copy_3_2 hG2 hs ht hC h
          · exact am_copy_3_3 hG2 hs ht hC h
      · dsimp only [o_copy] at h
        rw [if_pos (Or.inr ht)] at h
        exact hG2 [] 100 0 _ _ _ _ (am_f (am_bp hs) (am_nf (am_bn ht) (h I L hC)))
    · dsimp only [o_copy] at h
      rw [if_pos (Or.inl hs)] at h
      exact hG2 [] 100 0 _ _ _ _ (am_t (am_bn hs) (h I L hC))
  · exact h.elim
