/-! THE MACHINE: System.arraycopy -/
theorem am_co_copy {l : Launch} {own : String} {rm : Room} {idx : Nat} (hl : Cond.methodLink own idx arraycopyName ∈ am_U) (hnat : Cond.native arraycopyName ∈ am_U) (hst : Cond.static arraycopyName ∈ am_U) (hini : Cond.initialized "java/lang/System" ∈ am_U) (hR : 1 ≤ rm.frames ∧ 8 + (nativeFrameWords "java/lang/System" "arraycopy" 5 + 11) ≤ rm.locals) : am_Call l am_SX own rm idx 5 0 T_SY_arraycopy := by
  intro p e s m args below meth c cc nL ad ca D A Q X pc vs r I L post H locs lsA hdg hlen hcat hobj hT hsz hP hS kk
  obtain ⟨hx, hb, hml, hown, hU, hN, hK, hD, hsh, hA⟩ := X
  rw [am_kind, if_pos rfl] at hdg
  unfold T_SY_arraycopy at hT
  have hloc : ((r.map (am_val ad)).map fun v => v.category).sum + (nativeFrameWords "java/lang/System" "arraycopy" 5 + 11) ≤ rm.locals := by
    rw [am_cat_ok]
    omega
  split at hT
  · rename_i a sp b dp n
    obtain ⟨c1, h1, hT⟩ := am_sh_ok hT
    obtain ⟨c2, h2, hT⟩ := am_sh_ok hT
    have e : (([Value.ref a, .int sp, .ref b, .int dp, .int n].reverse ++ r).map (am_val ad)) = .int n :: .int dp :: .ref (ad b) :: .int sp :: .ref (ad a) :: r.map (am_val ad) := by simp [am_val]
    rw [e]
    split at hT
    · rename_i na ra nb rb q
      obtain ⟨g1, g2, g3, g4, g5, g6⟩ := hT
      refine va_copyi hx hb (hml.trans hsz.symm) hown (hU _ hl) (hU _ hnat) (hU _ hst) (hU _ hini) hK hP (hD I L) hS a b 0 0 (f := I a) (g := I b) (ty := .int) (am_w_get h1) (am_w_get h2) rfl rfl rfl g1 g2 g3 g4 g5 (fun i hi => rfl) hR.1 hloc hdg (fun H1 locs1 hP1 hD1 hS1 => ?_)
      refine kk none (am_cpi I a b sp.toNatClampNeg dp.toNatClampNeg n.toNatClampNeg) L H1 locs1 g6 ?_ hS1
      rw [← am_w_set (I := I) (L := L) h2 (fun a' ha => ⟨am_cpi_o ha, rfl⟩)]
      have e2 : am_cell ad ca (am_cpi I a b sp.toNatClampNeg dp.toNatClampNeg n.toNatClampNeg) L b (.inr (0, nb, rb)) = .inl (ca 0, nb, .inl (va_cpy (I a) (I b) sp.toNatClampNeg dp.toNatClampNeg n.toNatClampNeg)) := by
        show Sum.inl (ca 0, nb, Sum.inl (am_cpi I a b sp.toNatClampNeg dp.toNatClampNeg n.toNatClampNeg b)) = _
        have e3 : am_cpi I a b sp.toNatClampNeg dp.toNatClampNeg n.toNatClampNeg b = va_cpy (I a) (I b) sp.toNatClampNeg dp.toNatClampNeg n.toNatClampNeg := by
          funext k
          simp [am_cpi, va_cpy]
        rw [e3]
      rw [e2]
      exact hP1
    · rename_i na ra nb rb q
      obtain ⟨g1, g2, g3, g4, g5, g6⟩ := hT
      refine va_copyl hx hb (hml.trans hsz.symm) hown (hU _ hl) (hU _ hnat) (hU _ hst) (hU _ hini) hK hP (hD I L) hS a b 1 1 (f := L a) (g := L b) (ty := .long) (am_w_get h1) (am_w_get h2) rfl rfl rfl g1 g2 g3 g4 g5 (fun i hi => rfl) hR.1 hloc hdg (fun H1 locs1 hP1 hD1 hS1 => ?_)
      refine kk none I (am_cpj L a b sp.toNatClampNeg dp.toNatClampNeg n.toNatClampNeg) H1 locs1 g6 ?_ hS1
      rw [← am_w_set (I := I) (L := L) h2 (fun a' ha => ⟨rfl, am_cpj_o ha⟩)]
      have e2 : am_cell ad ca I (am_cpj L a b sp.toNatClampNeg dp.toNatClampNeg n.toNatClampNeg) b (.inr (1, nb, rb)) = .inl (ca 1, nb, .inr (.inl (va_cpy (L a) (L b) sp.toNatClampNeg dp.toNatClampNeg n.toNatClampNeg))) := by
        show Sum.inl (ca 1, nb, Sum.inr (Sum.inl (am_cpj L a b sp.toNatClampNeg dp.toNatClampNeg n.toNatClampNeg b))) = _
        have e3 : am_cpj L a b sp.toNatClampNeg dp.toNatClampNeg n.toNatClampNeg b = va_cpy (L a) (L b) sp.toNatClampNeg dp.toNatClampNeg n.toNatClampNeg := by
          funext k
          simp [am_cpj, va_cpy]
        rw [e3]
      rw [e2]
      exact hP1
    · exact hT.elim
  · exact hT.elim
theorem am_shX : am_shOK am_SX = true := by decide +kernel
theorem am_pos {w : Cond} (i : Nat) (h : decide (lw_tbl[i]? = some w) = true) (hg : goodWord w = true) : w ∈ am_U := am_inU i (of_decide_eq_true h) hg
theorem am_posN {w : Cond} (i : Nat) (h : decide (lw_tbl[i]? = some w) = true) (hg : am_isN w = true) : w ∈ am_N := List.mem_filter.mpr ⟨List.mem_of_getElem? (of_decide_eq_true h), hg⟩
