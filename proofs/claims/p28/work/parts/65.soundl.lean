/-! THE SMALL MACHINE IN THE LAW's ENTRY: nc cells, ns slots are made; no return -/
def am_nret (q : am_E) : Bool := match q with
  | (_, i, _) => match i with
    | .ireturn | .lreturn | .return_ => false
    | _ => true
def am_VL (nc ns : Nat) (p : Program) (l : Launch) (e : Env) (R : Room) (s : State) (m : MethodId) (args : Array Value) (below : List Frame) (meth : Method) (c : Code) (nL : Nat) (S : List am_C) (ad : Nat → Nat) (ca : Nat → ClassId) (D : va_G) (A : Nat → Prop) (Q : State → Prop) : am_G := fun pc ls st I L =>
  ls.length = nL → ∀ (H : Heap) (locs : List Loc) (lsA : Array Slot), va_P D am_cl (am_w S ad ca I L) H → va_S A s.heap H locs → lv_has lsA nL (am_lc ad 0 ls) → W p l e R s m args below meth c H locs nc ns Q (F0 m pc lsA (st.map (am_val ad)))
def am_COL (nc ns : Nat) (p : Program) (l : Launch) (e : Env) (R : Room) (s : State) (m : MethodId) (args : Array Value) (below : List Frame) (meth : Method) (c : Code) (cc : ByteArray) (nL : Nat) (S : List am_C) (ad : Nat → Nat) (ca : Nat → ClassId) (D : va_G) (A : Nat → Prop) (Q : State → Prop) (idx n k : Nat) (T : am_Sp) : Prop :=
  ∀ (pc : Nat) (vs r : List Value) (I : am_I) (L : am_J) (post : am_Po) (H : Heap) (locs : List Loc) (lsA : Array Slot), decode cc pc = .ok (am_kind k idx, 3) → vs.length = n → am_cat r ≤ 8 → (∀ ci, k = 10 + ci → ∃ o t fs, vs = .ref o :: t ∧ S[o]? = some (.inl (ci, fs))) → T vs I L post → lsA.size = nL → va_P D am_cl (am_w S ad ca I L) H → va_S A s.heap H locs →
    (∀ (v : Option Value) (I' : am_I) (L' : am_J) (H' : Heap) (locs' : List Loc), post v I' L' → va_P D am_cl (am_w S ad ca I' L') H' → va_S A s.heap H' locs' → W p l e R s m args below meth c H' locs' nc ns Q (F0 m (pc + 3) lsA ((v.toList ++ r).map (am_val ad)))) →
    W p l e R s m args below meth c H locs nc ns Q (F0 m pc lsA ((vs.reverse ++ r).map (am_val ad)))
section AM2L
variable {nc ns : Nat} {Q : State → Prop} {p : Program} {l : Launch} {e : Env} {R : Room} {s : State} {m : MethodId} {args : Array Value} {below : List Frame} {meth : Method} {c : Code} {cc : ByteArray} {own : String} {nL : Nat} {S : List am_C} {ad : Nat → Nat} {ca : Nat → ClassId} {D : va_G} {A : Nat → Prop}
set_option maxHeartbeats 4000000 in
theorem am_soundL1 {rb : Bool} {post : am_Po} {keys : List (Nat × Nat × Nat)} {sp : Nat → am_Sp} (X : am_X p s m args c cc own nL S ad ca D A)
    (hc : ∀ k ∈ keys, am_COL nc ns p l e R s m args below meth c cc nL S ad ca D A Q k.1 k.2.1 k.2.2 (sp k.1))
    {K : am_G} (hK : ∀ (pc : Nat) (ls : am_Lv) (st : List Value) (I : am_I) (L : am_J), K pc ls st I L → am_VL nc ns p l e R s m args below meth c nL S ad ca D A Q pc ls st I L)
    {q : am_E} (h1 : am_chk own cc keys q = true) (h2 : am_nret q = true) {ls : am_Lv} {st : List Value} {I : am_I} {L : am_J} (h : am_st S sp rb post K q ls st I L) : am_VL nc ns p l e R s m args below meth c nL S ad ca D A Q q.1 ls st I L := by
  obtain ⟨hx, hb, hml, hown, hU, hN, hKk, hD, hsh, -⟩ := X
  obtain ⟨pc, i, nx, x, y, z, zl, ws⟩ := q
  simp only [am_chk, Bool.and_eq_true, decide_eq_true_eq] at h1
  obtain ⟨hd, rfl, h1⟩ := h1
  intro hlen H locs lsA hP hS hl
  show W p l e R s m args below meth c H locs nc ns _ (F0 m pc lsA (st.map (am_val ad)))
  cases i <;> try exact False.elim h
  case iconst n => exact lv_iconst hx hb hd (of_decide_eq_true h1) (hK _ _ _ _ _ h hlen H locs lsA hP hS hl)
  case bipush n => exact lv_bipush hx hb hd (of_decide_eq_true h1) (hK _ _ _ _ _ h hlen H locs lsA hP hS hl)
  case sipush n => exact lv_sipush hx hb hd (of_decide_eq_true h1) (hK _ _ _ _ _ h hlen H locs lsA hP hS hl)
  case lconst n => exact lv_lconst hx hb hd (of_decide_eq_true h1) (hK _ _ _ _ _ h hlen H locs lsA hP hS hl)
  case ldc idx => exact lv_ldc hx hb hown (hU _ (am_inU x (of_decide_eq_true h1) rfl)) hd (hK _ _ _ _ _ h hlen H locs lsA hP hS hl)
  case ldc_w idx => exact lv_ldcw hx hb hown (hU _ (am_inU x (of_decide_eq_true h1) rfl)) hd (hK _ _ _ _ _ h hlen H locs lsA hP hS hl)
  case ldc2_w idx => exact lv_ldc2 hx hb hown (hU _ (am_inU x (of_decide_eq_true h1) rfl)) hd (hK _ _ _ _ _ h hlen H locs lsA hP hS hl)
  case iload k =>
    obtain ⟨v, h, hv⟩ := am_gld hl h
    cases v <;> try exact False.elim h
    exact lv_iload hx hb hd hv (hK _ _ _ _ _ h hlen H locs lsA hP hS hl)
  case iload_n k =>
    obtain ⟨v, h, hv⟩ := am_gld hl h
    cases v <;> try exact False.elim h
    exact lv_iload_n hx hb hd rfl hv (hK _ _ _ _ _ h hlen H locs lsA hP hS hl)
  case istore k =>
    simp only [am_st] at h
    split at h
    · obtain ⟨ls2, g1, g2, g3, g4⟩ := am_store1 (pc := 0) (nx := 0) hl hlen h
      exact lv_istore hx hb hd hl g3 rfl (fun ls' hl' => hK _ _ _ _ _ g1 g2 H locs ls' hP hS (g4 ls' hl'))
    · exact h.elim
  case istore_n k =>
    simp only [am_st] at h
    split at h
    · obtain ⟨ls2, g1, g2, g3, g4⟩ := am_store1 (pc := 0) (nx := 0) hl hlen h
      exact lv_istore_n hx hb hd rfl hl g3 rfl (fun ls' hl' => hK _ _ _ _ _ g1 g2 H locs ls' hP hS (g4 ls' hl'))
    · exact h.elim
  case lload k =>
    obtain ⟨v, h, hv⟩ := am_gld hl h
    cases v <;> try exact False.elim h
    exact lv_lload hx hb hd hv (hK _ _ _ _ _ h hlen H locs lsA hP hS hl)
  case lload_n k =>
    obtain ⟨v, h, hv⟩ := am_gld hl h
    cases v <;> try exact False.elim h
    exact lv_lload_n hx hb hd rfl hv (hK _ _ _ _ _ h hlen H locs lsA hP hS hl)
  case lstore k =>
    simp only [am_st] at h
    split at h
    · obtain ⟨ls2, g1, g2, g3, g4⟩ := am_store2 (pc := 0) (nx := 0) hl hlen h
      exact lv_lstore hx hb hd hl g3 rfl (fun ls' hl' => hK _ _ _ _ _ g1 g2 H locs ls' hP hS (g4 ls' hl'))
    · exact h.elim
  case lstore_n k =>
    simp only [am_st] at h
    split at h
    · obtain ⟨ls2, g1, g2, g3, g4⟩ := am_store2 (pc := 0) (nx := 0) hl hlen h
      exact lv_lstore_n hx hb hd rfl hl g3 rfl (fun ls' hl' => hK _ _ _ _ _ g1 g2 H locs ls' hP hS (g4 ls' hl'))
    · exact h.elim
  case aload k =>
    obtain ⟨v, h, hv⟩ := am_gld hl h
    cases v <;> try exact False.elim h
    exact lv_aload hx hb hd hv (hK _ _ _ _ _ h hlen H locs lsA hP hS hl)
  case aload_n k =>
    obtain ⟨v, h, hv⟩ := am_gld hl h
    cases v <;> try exact False.elim h
    exact lv_aload_n hx hb hd rfl hv (hK _ _ _ _ _ h hlen H locs lsA hP hS hl)
  case astore k =>
    simp only [am_st] at h
    split at h
    · obtain ⟨ls2, g1, g2, g3, g4⟩ := am_store1 (pc := 0) (nx := 0) hl hlen h
      exact lv_astore hx hb hd hl g3 rfl (fun ls' hl' => hK _ _ _ _ _ g1 g2 H locs ls' hP hS (g4 ls' hl'))
    · exact h.elim
  case astore_n k =>
    simp only [am_st] at h
    split at h
    · obtain ⟨ls2, g1, g2, g3, g4⟩ := am_store1 (pc := 0) (nx := 0) hl hlen h
      exact lv_astore_n hx hb hd rfl hl g3 rfl (fun ls' hl' => hK _ _ _ _ _ g1 g2 H locs ls' hP hS (g4 ls' hl'))
    · exact h.elim
  case iinc k n =>
    obtain ⟨v, hv1, h⟩ := am_gl_ok h
    cases v <;> try exact False.elim h
    rename_i a
    obtain ⟨ls2, g1, g2, g3, g4⟩ := am_store1 (pc := 0) (nx := 0) hl hlen h
    have hm : (k, Value.int a) ∈ am_lc ad 0 ls := (am_lc_mem ls 0 _).mpr ⟨k, _, hv1, by rw [show 0 + k = k by omega]; rfl⟩
    obtain ⟨k', hk'⟩ := List.getElem?_of_mem hm
    exact lv_iinc (k := k') hx hb hd hl hk' (by rw [of_decide_eq_true h1]) g3 rfl (fun ls' hl' => hK _ _ _ _ _ g1 g2 H locs ls' hP hS (g4 ls' hl'))
  case iadd =>
    simp only [am_st] at h
    split at h
    · exact lv_iadd hx hb hd (hK _ _ _ _ _ h hlen H locs lsA hP hS hl)
    · exact h.elim
  case isub =>
    simp only [am_st] at h
    split at h
    · exact lv_isub hx hb hd (hK _ _ _ _ _ h hlen H locs lsA hP hS hl)
    · exact h.elim
  case imul =>
    simp only [am_st] at h
    split at h
    · exact lv_imul hx hb hd (hK _ _ _ _ _ h hlen H locs lsA hP hS hl)
    · exact h.elim
  case iand =>
    simp only [am_st] at h
    split at h
    · exact lv_iand hx hb hd (hK _ _ _ _ _ h hlen H locs lsA hP hS hl)
    · exact h.elim
  case ior =>
    simp only [am_st] at h
    split at h
    · exact lv_ior hx hb hd (hK _ _ _ _ _ h hlen H locs lsA hP hS hl)
    · exact h.elim
  case ixor =>
    simp only [am_st] at h
    split at h
    · exact lv_ixor hx hb hd (hK _ _ _ _ _ h hlen H locs lsA hP hS hl)
    · exact h.elim
  case ishl =>
    simp only [am_st] at h
    split at h
    · exact lv_ishl hx hb hd (hK _ _ _ _ _ h hlen H locs lsA hP hS hl)
    · exact h.elim
  case ishr =>
    simp only [am_st] at h
    split at h
    · exact lv_ishr hx hb hd (hK _ _ _ _ _ h hlen H locs lsA hP hS hl)
    · exact h.elim
  case idiv =>
    simp only [am_st] at h
    split at h
    · exact lv_idiv hx hb hd h.1 (hK _ _ _ _ _ h.2 hlen H locs lsA hP hS hl)
    · exact h.elim
  case irem =>
    simp only [am_st] at h
    split at h
    · exact lv_irem hx hb hd h.1 (hK _ _ _ _ _ h.2 hlen H locs lsA hP hS hl)
    · exact h.elim
  case ladd =>
    simp only [am_st] at h
    split at h
    · exact lv_ladd hx hb hd (hK _ _ _ _ _ h hlen H locs lsA hP hS hl)
    · exact h.elim
  case land =>
    simp only [am_st] at h
    split at h
    · exact lv_land hx hb hd (hK _ _ _ _ _ h hlen H locs lsA hP hS hl)
    · exact h.elim
  case lor =>
    simp only [am_st] at h
    split at h
    · exact lv_lor hx hb hd (hK _ _ _ _ _ h hlen H locs lsA hP hS hl)
    · exact h.elim
  case lxor =>
    simp only [am_st] at h
    split at h
    · exact lv_lxor hx hb hd (hK _ _ _ _ _ h hlen H locs lsA hP hS hl)
    · exact h.elim
  case iushr =>
    simp only [am_st] at h
    split at h
    · exact lv_iushr hx hb hd rfl (hK _ _ _ _ _ h hlen H locs lsA hP hS hl)
    · exact h.elim
  case lshl =>
    simp only [am_st] at h
    split at h
    · exact lv_lshl hx hb hd rfl (hK _ _ _ _ _ h hlen H locs lsA hP hS hl)
    · exact h.elim
  case lshr =>
    simp only [am_st] at h
    split at h
    · exact lv_lshr hx hb hd rfl (hK _ _ _ _ _ h hlen H locs lsA hP hS hl)
    · exact h.elim
  case lushr =>
    simp only [am_st] at h
    split at h
    · exact lv_lushr hx hb hd rfl (hK _ _ _ _ _ h hlen H locs lsA hP hS hl)
    · exact h.elim
  case i2l =>
    simp only [am_st] at h
    split at h
    · exact lv_i2l hx hb hd rfl (hK _ _ _ _ _ h hlen H locs lsA hP hS hl)
    · exact h.elim
  case l2i =>
    simp only [am_st] at h
    split at h
    · exact lv_l2i hx hb hd rfl (hK _ _ _ _ _ h hlen H locs lsA hP hS hl)
    · exact h.elim
  case i2b =>
    simp only [am_st] at h
    split at h
    · exact lv_i2b hx hb hd rfl (hK _ _ _ _ _ h hlen H locs lsA hP hS hl)
    · exact h.elim
  case i2s =>
    simp only [am_st] at h
    split at h
    · exact lv_i2s hx hb hd rfl (hK _ _ _ _ _ h hlen H locs lsA hP hS hl)
    · exact h.elim
  case lcmp =>
    simp only [am_st] at h
    split at h
    · exact W.lcmp hx hb hd (hK _ _ _ _ _ h hlen H locs lsA hP hS hl)
    · exact h.elim
  case dup =>
    simp only [am_st] at h
    split at h
    · split at h
      · rename_i hq
        exact lv_dup hx hb hd (by rw [am_val_cat]; exact Nat.eq_of_beq_eq_true hq) (hK _ _ _ _ _ h hlen H locs lsA hP hS hl)
      · exact h.elim
    · exact h.elim
  case dup2 =>
    simp only [am_st] at h
    split at h
    · split at h
      · rename_i hq
        split at h
        · rename_i hq2
          exact lv_dup2_11 hx hb hd (by rw [am_val_cat]; exact Nat.eq_of_beq_eq_true hq) (by rw [am_val_cat]; exact Nat.eq_of_beq_eq_true hq2) (hK _ _ _ _ _ h hlen H locs lsA hP hS hl)
        · exact h.elim
      · exact h.elim
    · exact h.elim
  case goto off => exact lv_goto (tgt := x) hx hb hd (of_decide_eq_true h1) (hK _ _ _ _ _ h hlen H locs lsA hP hS hl)
  case ifCond cd off =>
    simp only [am_st] at h
    split at h
    · cases cd
      case eq => exact lv_if_eq (tgt := x) hx hb hd (of_decide_eq_true h1) (fun q => (hK _ _ _ _ _ (h.1 q) hlen H locs lsA hP hS hl)) (fun q => (hK _ _ _ _ _ (h.2 q) hlen H locs lsA hP hS hl))
      case ne => exact lv_if_ne (tgt := x) hx hb hd (of_decide_eq_true h1) (fun q => (hK _ _ _ _ _ (h.1 q) hlen H locs lsA hP hS hl)) (fun q => (hK _ _ _ _ _ (h.2 q) hlen H locs lsA hP hS hl))
      case lt => exact lv_if_lt (tgt := x) hx hb hd (of_decide_eq_true h1) (fun q => (hK _ _ _ _ _ (h.1 q) hlen H locs lsA hP hS hl)) (fun q => (hK _ _ _ _ _ (h.2 q) hlen H locs lsA hP hS hl))
      case ge => exact lv_if_ge (tgt := x) hx hb hd (of_decide_eq_true h1) (fun q => (hK _ _ _ _ _ (h.1 (Int32.not_lt.mpr q)) hlen H locs lsA hP hS hl)) (fun q => (hK _ _ _ _ _ (h.2 (Int32.not_le.mp q)) hlen H locs lsA hP hS hl))
      case gt => exact lv_if_gt (tgt := x) hx hb hd (of_decide_eq_true h1) (fun q => (hK _ _ _ _ _ (h.1 q) hlen H locs lsA hP hS hl)) (fun q => (hK _ _ _ _ _ (h.2 q) hlen H locs lsA hP hS hl))
      case le => exact lv_if_le (tgt := x) hx hb hd (of_decide_eq_true h1) (fun q => (hK _ _ _ _ _ (h.1 (Int32.not_lt.mpr q)) hlen H locs lsA hP hS hl)) (fun q => (hK _ _ _ _ _ (h.2 (Int32.not_le.mp q)) hlen H locs lsA hP hS hl))
    · exact h.elim
  case if_icmp cd off =>
    simp only [am_st] at h
    split at h
    · cases cd
      case eq => exact lv_icmp_eq (tgt := x) hx hb hd (of_decide_eq_true h1) (fun q => (hK _ _ _ _ _ (h.1 q) hlen H locs lsA hP hS hl)) (fun q => (hK _ _ _ _ _ (h.2 q) hlen H locs lsA hP hS hl))
      case ne => exact lv_icmp_ne (tgt := x) hx hb hd (of_decide_eq_true h1) (fun q => (hK _ _ _ _ _ (h.1 q) hlen H locs lsA hP hS hl)) (fun q => (hK _ _ _ _ _ (h.2 q) hlen H locs lsA hP hS hl))
      case lt => exact lv_icmp_lt (tgt := x) hx hb hd (of_decide_eq_true h1) (fun q => (hK _ _ _ _ _ (h.1 q) hlen H locs lsA hP hS hl)) (fun q => (hK _ _ _ _ _ (h.2 q) hlen H locs lsA hP hS hl))
      case ge => exact lv_icmp_ge (tgt := x) hx hb hd (of_decide_eq_true h1) (fun q => (hK _ _ _ _ _ (h.1 (Int32.not_lt.mpr q)) hlen H locs lsA hP hS hl)) (fun q => (hK _ _ _ _ _ (h.2 (Int32.not_le.mp q)) hlen H locs lsA hP hS hl))
      case gt => exact lv_icmp_gt (tgt := x) hx hb hd (of_decide_eq_true h1) (fun q => (hK _ _ _ _ _ (h.1 q) hlen H locs lsA hP hS hl)) (fun q => (hK _ _ _ _ _ (h.2 q) hlen H locs lsA hP hS hl))
      case le => exact lv_icmp_le (tgt := x) hx hb hd (of_decide_eq_true h1) (fun q => (hK _ _ _ _ _ (h.1 (Int32.not_lt.mpr q)) hlen H locs lsA hP hS hl)) (fun q => (hK _ _ _ _ _ (h.2 (Int32.not_le.mp q)) hlen H locs lsA hP hS hl))
    · exact h.elim
  case getfield idx =>
    simp only [am_st] at h
    split at h
    · rename_i o r
      obtain ⟨C, T, N, hcl, hkN, hdecl, hlink, -⟩ := am_fk h1
      obtain ⟨cl, hs, h3⟩ := am_sh_ok h
      clear h
      rcases cl with ⟨ci, fs⟩ | cl
      · dsimp only at h3
        cases hbq : Nat.beq ci x with
        | false => rw [hbq] at h3; exact h3.elim
        | true =>
          rw [hbq] at h3
          have hci := Nat.eq_of_beq_eq_true hbq
          subst hci
          obtain ⟨code, hf, h⟩ := am_fc_ok h3
          have hin : ∀ w ∈ u_ws C T N, w ∈ am_U := fun w hw => List.mem_filter.mpr ((am_cls hcl).1 w hw)
          have hv : (am_fs ad I L o 0 fs)[y]? = some (am_fv ad I L o y code) := by
            have := am_fs_get (ad := ad) (I := I) (L := L) (o := o) (i := 0) hf
            rwa [show 0 + y = y by omega] at this
          have hw := am_w_get (ad := ad) (ca := ca) (I := I) (L := L) hs
          have kk : W p l e R s m args below meth c H locs nc ns Q (F0 m (pc + 3) lsA (am_fv ad I L o y code :: r.map (am_val ad))) := by
            match code, h with
            | 0, h => exact (hK _ _ _ _ _ h hlen H locs lsA hP hS hl)
            | 1, h => exact (hK _ _ _ _ _ h hlen H locs lsA hP hS hl)
            | 2, h => exact (hK _ _ _ _ _ h hlen H locs lsA hP hS hl)
            | n + 3, h => exact (hK _ _ _ _ _ h hlen H locs lsA hP hS hl)
          rcases hlink with hlink | hlink
          · exact va_get hx hb hU hin hown hKk hP o hw hcl y hkN (hU _ hlink) (fun x hx => by rw [hdecl] at hx; exact hx) hv hd kk
          · exact va_getN hx hb hU hin hown hKk hP o hw hcl y hkN (hN _ hlink) (fun x hx => by rw [hdecl] at hx; exact hx) hv hd kk
      · exact h3.elim
    · exact h.elim
  case putfield idx =>
    simp only [am_st] at h
    split at h
    · rename_i a o r
      obtain ⟨C, T, N, hcl, hkN, hdecl, hlink, hfin⟩ := am_fk h1
      obtain ⟨cl, hs, h3⟩ := am_sh_ok h
      clear h
      rcases cl with ⟨ci, fs⟩ | cl
      · dsimp only at h3
        cases hbq : Nat.beq ci x with
        | false => rw [hbq] at h3; exact h3.elim
        | true =>
          rw [hbq] at h3
          have hci := Nat.eq_of_beq_eq_true hbq
          subst hci
          obtain ⟨code, hf, h⟩ := am_fc_ok h3
          have hin : ∀ w ∈ u_ws C T N, w ∈ am_U := fun w hw => List.mem_filter.mpr ((am_cls hcl).1 w hw)
          have hty : ∀ k, k < N → parseFieldDescriptor (T k).2.2.1 = some ((parseFieldDescriptor (T k).2.2.1).getD .int) := fun k hk => by
            have := (am_cls hcl).2.2 k hk
            cases hq : parseFieldDescriptor (T k).2.2.1 with
            | none => rw [hq] at this; cases this
            | some t => rfl
          have hw := am_w_get (ad := ad) (ca := ca) (I := I) (L := L) hs
          match code, hf, h with
          | 0, hf, h =>
              have hsc := am_shc hsh hs hcl hf
              have e1 : parseFieldDescriptor (T y).2.2.1 = some .int := by rw [hsc.2.1 rfl]; decide +kernel
              have e2 : (am_w S ad ca I L).set o (ad o, .inr (ci, (am_fs ad I L o 0 fs).set y (.int a))) = am_w S ad ca (am_ui I o y a) (L) := am_putw hs hf (by simp [am_fv, am_ui]) (fun a h => ⟨am_ui_o h, rfl⟩) (fun j h => ⟨by simp [am_ui, h], rfl⟩)
              have e3 : y < (am_fs ad I L o 0 fs).length := by rw [am_fs_len]; exact (List.getElem?_eq_some_iff.mp hf).1
              rcases hlink with hlink | hlink
              · exact va_put hx hb hU hin (fun k => (parseFieldDescriptor (T k).2.2.1).getD .int) hty (am_cls hcl).2.1 hown hKk hP (hD I L) hS o hw hcl y hkN (hU _ hlink) (fun x hx => by rw [hdecl] at hx; exact hx) (hfin rfl) e1 rfl rfl e3 hd (fun H1 locs1 hP1 _ hS1 => hK _ _ _ _ _ h hlen H1 locs1 lsA (e2 ▸ hP1) hS1 hl)
              · exact va_putN hx hb hU hin (fun k => (parseFieldDescriptor (T k).2.2.1).getD .int) hty (am_cls hcl).2.1 hown hKk hP (hD I L) hS o hw hcl y hkN (hN _ hlink) (fun x hx => by rw [hdecl] at hx; exact hx) (hfin rfl) e1 rfl rfl e3 hd (fun H1 locs1 hP1 _ hS1 => hK _ _ _ _ _ h hlen H1 locs1 lsA (e2 ▸ hP1) hS1 hl)
          | 1, hf, h => exact h.elim
          | 2, hf, h =>
              have hsc := am_shc hsh hs hcl hf
              have e1 : parseFieldDescriptor (T y).2.2.1 = some .boolean := by rw [hsc.2.2.2 rfl]; decide +kernel
              have e2 : (am_w S ad ca I L).set o (ad o, .inr (ci, (am_fs ad I L o 0 fs).set y (.int a))) = am_w S ad ca (am_ui I o y a) (L) := am_putw hs hf (by simp [am_fv, am_ui]) (fun a h => ⟨am_ui_o h, rfl⟩) (fun j h => ⟨by simp [am_ui, h], rfl⟩)
              have e3 : y < (am_fs ad I L o 0 fs).length := by rw [am_fs_len]; exact (List.getElem?_eq_some_iff.mp hf).1
              rcases hlink with hlink | hlink
              · exact va_put hx hb hU hin (fun k => (parseFieldDescriptor (T k).2.2.1).getD .int) hty (am_cls hcl).2.1 hown hKk hP (hD I L) hS o hw hcl y hkN (hU _ hlink) (fun x hx => by rw [hdecl] at hx; exact hx) (hfin rfl) e1 (by rcases h.1 with rfl | rfl <;> rfl) (by rcases h.1 with rfl | rfl <;> rfl) e3 hd (fun H1 locs1 hP1 _ hS1 => hK _ _ _ _ _ h.2 hlen H1 locs1 lsA (e2 ▸ hP1) hS1 hl)
              · exact va_putN hx hb hU hin (fun k => (parseFieldDescriptor (T k).2.2.1).getD .int) hty (am_cls hcl).2.1 hown hKk hP (hD I L) hS o hw hcl y hkN (hN _ hlink) (fun x hx => by rw [hdecl] at hx; exact hx) (hfin rfl) e1 (by rcases h.1 with rfl | rfl <;> rfl) (by rcases h.1 with rfl | rfl <;> rfl) e3 hd (fun H1 locs1 hP1 _ hS1 => hK _ _ _ _ _ h.2 hlen H1 locs1 lsA (e2 ▸ hP1) hS1 hl)
          | n + 3, hf, h => exact h.elim
      · exact h3.elim
    · rename_i a o r
      obtain ⟨C, T, N, hcl, hkN, hdecl, hlink, hfin⟩ := am_fk h1
      obtain ⟨cl, hs, h3⟩ := am_sh_ok h
      clear h
      rcases cl with ⟨ci, fs⟩ | cl
      · dsimp only at h3
        cases hbq : Nat.beq ci x with
        | false => rw [hbq] at h3; exact h3.elim
        | true =>
          rw [hbq] at h3
          have hci := Nat.eq_of_beq_eq_true hbq
          subst hci
          obtain ⟨code, hf, h⟩ := am_fc_ok h3
          have hin : ∀ w ∈ u_ws C T N, w ∈ am_U := fun w hw => List.mem_filter.mpr ((am_cls hcl).1 w hw)
          have hty : ∀ k, k < N → parseFieldDescriptor (T k).2.2.1 = some ((parseFieldDescriptor (T k).2.2.1).getD .int) := fun k hk => by
            have := (am_cls hcl).2.2 k hk
            cases hq : parseFieldDescriptor (T k).2.2.1 with
            | none => rw [hq] at this; cases this
            | some t => rfl
          have hw := am_w_get (ad := ad) (ca := ca) (I := I) (L := L) hs
          match code, hf, h with
          | 0, hf, h => exact h.elim
          | 1, hf, h =>
              have hsc := am_shc hsh hs hcl hf
              have e1 : parseFieldDescriptor (T y).2.2.1 = some .long := by rw [hsc.2.2.1 rfl]; decide +kernel
              have e2 : (am_w S ad ca I L).set o (ad o, .inr (ci, (am_fs ad I L o 0 fs).set y (.long a))) = am_w S ad ca (I) (am_uj L o y a) := am_putw hs hf (by simp [am_fv, am_uj]) (fun a h => ⟨rfl, am_uj_o h⟩) (fun j h => ⟨rfl, by simp [am_uj, h]⟩)
              have e3 : y < (am_fs ad I L o 0 fs).length := by rw [am_fs_len]; exact (List.getElem?_eq_some_iff.mp hf).1
              rcases hlink with hlink | hlink
              · exact va_put hx hb hU hin (fun k => (parseFieldDescriptor (T k).2.2.1).getD .int) hty (am_cls hcl).2.1 hown hKk hP (hD I L) hS o hw hcl y hkN (hU _ hlink) (fun x hx => by rw [hdecl] at hx; exact hx) (hfin rfl) e1 rfl rfl e3 hd (fun H1 locs1 hP1 _ hS1 => hK _ _ _ _ _ h hlen H1 locs1 lsA (e2 ▸ hP1) hS1 hl)
              · exact va_putN hx hb hU hin (fun k => (parseFieldDescriptor (T k).2.2.1).getD .int) hty (am_cls hcl).2.1 hown hKk hP (hD I L) hS o hw hcl y hkN (hN _ hlink) (fun x hx => by rw [hdecl] at hx; exact hx) (hfin rfl) e1 rfl rfl e3 hd (fun H1 locs1 hP1 _ hS1 => hK _ _ _ _ _ h hlen H1 locs1 lsA (e2 ▸ hP1) hS1 hl)
          | n + 2, hf, h => exact h.elim
      · exact h3.elim
    · exact h.elim
  case iaload =>
    simp only [am_st] at h
    split at h
    · rename_i j o r
      obtain ⟨cl, hs, h⟩ := am_sh_ok h
      match cl, hs, h with
      | .inr (0, n, rs), hs, h => exact va_iald hx hb hKk hP o 0 (am_w_get hs) rfl h.1 hd (hK _ _ _ _ _ h.2 hlen H locs lsA hP hS hl)
    · exact h.elim
  case baload =>
    simp only [am_st] at h
    split at h
    · rename_i j o r
      obtain ⟨cl, hs, h⟩ := am_sh_ok h
      match cl, hs, h with
      | .inr (2, n, rs), hs, h => exact va_bald hx hb hKk hP o 2 (am_w_get hs) rfl h.1 hd (hK _ _ _ _ _ h.2 hlen H locs lsA hP hS hl)
    · exact h.elim
  case laload =>
    simp only [am_st] at h
    split at h
    · rename_i j o r
      obtain ⟨cl, hs, h⟩ := am_sh_ok h
      match cl, hs, h with
      | .inr (1, n, rs), hs, h => exact va_lald hx hb hKk hP o 1 (am_w_get hs) rfl h.1 hd (hK _ _ _ _ _ h.2 hlen H locs lsA hP hS hl)
    · exact h.elim
  case aaload =>
    simp only [am_st] at h
    split at h
    · rename_i j o r
      obtain ⟨cl, hs, h⟩ := am_sh_ok h
      match cl, hs, h with
      | .inr (3, n, rs), hs, h =>
        obtain ⟨hin, hn, hn2, h⟩ := h
        obtain ⟨k, hk, hj⟩ := am_inR hin hn2
        obtain ⟨a, ha⟩ : ∃ a, rs[k]? = some a := ⟨_, List.getElem?_eq_getElem (by omega)⟩
        have h3 := am_al_ok rs 0 j _ h k a ha (by rw [hj, show 0 + k = k by omega])
        refine va_aldq hx hb hKk hP o 3 (am_w_get hs) rfl hin hd ?_
        have e1 : j.toNatClampNeg = k := by rw [hj]; exact nI_clamp (by omega)
        rw [e1]
        show W p l e R s m args below meth c H locs nc ns _ (F0 m (pc + 1) lsA (va_rf ((rs[k]?).map ad) :: _))
        rw [ha]
        exact (hK _ _ _ _ _ h3 hlen H locs lsA hP hS hl)
    · exact h.elim
  case iastore =>
    simp only [am_st] at h
    split at h
    · rename_i a j o r
      obtain ⟨cl, hs, h⟩ := am_sh_ok h
      match cl, hs, h with
      | .inr (0, n, rs), hs, h =>
        have e2 : (am_w S ad ca I L).set o (ad o, .inl (ca 0, n, .inl (upd (I o) j.toNatClampNeg a))) = am_w S ad ca (am_ui I o j.toNatClampNeg a) (L) := by
          have e3 : am_cell ad ca (am_ui I o j.toNatClampNeg a) (L) o (.inr (0, n, rs)) = .inl (ca 0, n, .inl (upd (I o) j.toNatClampNeg a)) := by
            show (Sum.inl (ca 0, n, .inl (am_ui I o j.toNatClampNeg a o)) : va_E) = _
            rw [am_ui_s]
          rw [← am_w_set hs (fun a h => ⟨am_ui_o h, rfl⟩), e3]
        exact va_iast hx hb hKk hP (hD I L) hS o 0 (am_w_get hs) rfl h.1 hd (fun H1 locs1 hP1 _ hS1 => hK _ _ _ _ _ h.2 hlen H1 locs1 lsA (e2 ▸ hP1) hS1 hl)
    · exact h.elim
  case bastore =>
    simp only [am_st] at h
    split at h
    · rename_i a j o r
      obtain ⟨cl, hs, h⟩ := am_sh_ok h
      match cl, hs, h with
      | .inr (2, n, rs), hs, h =>
        have e2 : (am_w S ad ca I L).set o (ad o, .inl (ca 2, n, .inl (upd (I o) j.toNatClampNeg (vp_nar .byte a)))) = am_w S ad ca (am_ui I o j.toNatClampNeg (vp_nar .byte a)) (L) := by
          have e3 : am_cell ad ca (am_ui I o j.toNatClampNeg (vp_nar .byte a)) (L) o (.inr (2, n, rs)) = .inl (ca 2, n, .inl (upd (I o) j.toNatClampNeg (vp_nar .byte a))) := by
            show (Sum.inl (ca 2, n, .inl (am_ui I o j.toNatClampNeg (vp_nar .byte a) o)) : va_E) = _
            rw [am_ui_s]
          rw [← am_w_set hs (fun a h => ⟨am_ui_o h, rfl⟩), e3]
        exact va_bast hx hb hKk hP (hD I L) hS o 2 (am_w_get hs) rfl h.1 hd (fun H1 locs1 hP1 _ hS1 => hK _ _ _ _ _ h.2 hlen H1 locs1 lsA (e2 ▸ hP1) hS1 hl)
    · exact h.elim
  case lastore =>
    simp only [am_st] at h
    split at h
    · rename_i a j o r
      obtain ⟨cl, hs, h⟩ := am_sh_ok h
      match cl, hs, h with
      | .inr (1, n, rs), hs, h =>
        have e2 : (am_w S ad ca I L).set o (ad o, .inl (ca 1, n, .inr (.inl (vp_updL (L o) j.toNatClampNeg a)))) = am_w S ad ca (I) (am_uj L o j.toNatClampNeg a) := by
          have e3 : am_cell ad ca (I) (am_uj L o j.toNatClampNeg a) o (.inr (1, n, rs)) = .inl (ca 1, n, .inr (.inl (vp_updL (L o) j.toNatClampNeg a))) := by
            show (Sum.inl (ca 1, n, .inr (.inl (am_uj L o j.toNatClampNeg a o))) : va_E) = _
            rw [am_uj_s]
          rw [← am_w_set hs (fun a h => ⟨rfl, am_uj_o h⟩), e3]
        exact va_last hx hb hKk hP (hD I L) hS o 1 (am_w_get hs) rfl h.1 hd (fun H1 locs1 hP1 _ hS1 => hK _ _ _ _ _ h.2 hlen H1 locs1 lsA (e2 ▸ hP1) hS1 hl)
    · exact h.elim
  case arraylength =>
    simp only [am_st] at h
    split at h
    · rename_i o r
      obtain ⟨cl, hs, h⟩ := am_sh_ok h
      match cl, hs, h with
      | .inr (0, n, rs), hs, h => exact va_alen hx hb hKk hP o 0 (am_w_get hs) rfl rfl hd (hK _ _ _ _ _ h hlen H locs lsA hP hS hl)
      | .inr (1, n, rs), hs, h => exact va_alen hx hb hKk hP o 1 (am_w_get hs) rfl rfl hd (hK _ _ _ _ _ h hlen H locs lsA hP hS hl)
      | .inr (2, n, rs), hs, h => exact va_alen hx hb hKk hP o 2 (am_w_get hs) rfl rfl hd (hK _ _ _ _ _ h hlen H locs lsA hP hS hl)
      | .inr (t + 3, n, rs), hs, h =>
        have : Nat.ble (t + 3) 2 = false := by cases hq : Nat.ble (t + 3) 2 with
          | false => rfl
          | true => have := Nat.le_of_ble_eq_true hq; omega
        simp only [this] at h
    · exact h.elim
  case tableswitch d lo hi offs =>
    simp only [am_st] at h
    split at h
    · rename_i a r
      simp only [Bool.and_eq_true, decide_eq_true_eq] at h1
      obtain ⟨rfl, hhi, hdf, hlw, hof⟩ := h1
      rcases am_ts_ok ws 0 a _ x h with ⟨k, t, g1, g2, g3⟩ | ⟨g1, g2⟩
      · have hk : k < ws.length := (List.getElem?_eq_some_iff.mp g1).1
        rw [show 0 + k = k by omega] at g2
        have ha : a.toInt = (k : Int) := by rw [g2]; exact nI_toInt (by omega)
        have h4 : (offs.toList.map (fun o => (pc : Int) + o))[k]? = some (t : Int) := by rw [hof, List.getElem?_map, g1]; rfl
        rw [List.getElem?_map] at h4
        obtain ⟨off, h5, h6⟩ := Option.map_eq_some_iff.mp h4
        exact lv_tableIn (off := off) (tgt := t) hx hb hd (by omega) (by omega) (by rw [ha, ← Array.getElem?_toList]; simpa using h5) h6 (hK _ _ _ _ _ g3 hlen H locs lsA hP hS hl)
      · have ha : ∀ k : Nat, k < ws.length → a.toInt ≠ (k : Int) := fun k hk q => g1 k hk (Int32.toInt_inj.mp (by rw [q, show 0 + k = k by omega]; exact (nI_toInt (by omega)).symm))
        refine lv_tableOut (tgt := x) hx hb hd ?_ hdf (hK _ _ _ _ _ g2 hlen H locs lsA hP hS hl)
        by_cases h0 : a.toInt < 0
        · exact Or.inl h0
        · right
          have := ha a.toInt.toNat
          omega
    · exact h.elim
  case lookupswitch d ps =>
    simp only [am_st] at h
    split at h
    · rename_i a r
      simp only [Bool.and_eq_true, decide_eq_true_eq] at h1
      obtain ⟨hks, hdf, hlw, hof⟩ := h1
      rcases am_ts_ok ws 0 a _ x h with ⟨k, t, g1, g2, g3⟩ | ⟨g1, g2⟩
      · have hk : k < ws.length := (List.getElem?_eq_some_iff.mp g1).1
        rw [show 0 + k = k by omega] at g2
        have ha : a.toInt = (k : Int) := by rw [g2]; exact nI_toInt (by omega)
        have h4 : (ps.toList.map (fun q => (pc : Int) + q.2))[k]? = some (t : Int) := by rw [hof, List.getElem?_map, g1]; rfl
        rw [List.getElem?_map] at h4
        obtain ⟨pr, h5, h6⟩ := Option.map_eq_some_iff.mp h4
        refine lv_lookup (off := pr.2) (tgt := t) hx hb hd (am_lk_sorted _ _ hks) ?_ h6 (hK _ _ _ _ _ g3 hlen H locs lsA hP hS hl)
        rw [ha]
        have h7 := am_lk_hit ps.toList 0 ws.length (by rw [hks, List.range_eq_range']) d k pr h5
        rwa [Nat.zero_add] at h7
      · have ha : ∀ k : Nat, k < ws.length → a.toInt ≠ (k : Int) := fun k hk q => g1 k hk (Int32.toInt_inj.mp (by rw [q, show 0 + k = k by omega]; exact (nI_toInt (by omega)).symm))
        refine lv_lookup (off := d) (tgt := x) hx hb hd (am_lk_sorted _ _ hks) ?_ hdf (hK _ _ _ _ _ g2 hlen H locs lsA hP hS hl)
        exact am_lk_miss ps.toList 0 ws.length (by rw [hks, List.range_eq_range']) d _ (fun k hk => by rw [Nat.zero_add]; exact ha k hk)
    · exact h.elim
  case invokestatic idx =>
    simp only [Bool.and_eq_true, decide_eq_true_eq] at h1
    obtain ⟨rfl, hk⟩ := h1
    obtain ⟨vs, r, g2, g3, g4⟩ := am_tk_ok y st [] _ h
    rw [List.append_nil] at g2
    subst g4
    split at g2
    · rename_i g1
      exact hc _ hk pc vs r I L _ H locs lsA hd g3 (Nat.le_of_ble_eq_true g1) (fun ci q => by dsimp only at q; omega) g2 hl.1 hP hS (fun v I' L' H' locs' hv hP' hS' => by
        cases v with
        | none => exact hK _ _ _ _ _ hv hlen H' locs' lsA hP' hS' hl
        | some v => exact hK _ _ _ _ _ hv hlen H' locs' lsA hP' hS' hl)
    · exact g2.elim
  case invokevirtual idx =>
    simp only [Bool.and_eq_true, decide_eq_true_eq] at h1
    obtain ⟨rfl, hk⟩ := h1
    obtain ⟨vs, r, g2, g3, g4⟩ := am_tk_ok y st [] _ h
    rw [List.append_nil] at g2
    subst g4
    split at g2
    · rename_i g1
      split at g2
      · rename_i o t
        obtain ⟨cl, hs, g2⟩ := am_sh_ok g2
        rcases cl with ⟨ci, fs⟩ | cl
        · dsimp only at g2
          split at g2
          · rename_i hci
            have hci := Nat.eq_of_beq_eq_true hci
            subst hci
            exact hc _ hk pc _ r I L _ H locs lsA (by rw [am_kind, if_neg (by dsimp only; omega)]; exact hd) g3 (Nat.le_of_ble_eq_true g1) (fun ci q => ⟨o, t, fs, rfl, by dsimp only at q; rw [hs, show ci = am_hd ws by omega]⟩) g2 hl.1 hP hS (fun v I' L' H' locs' hv hP' hS' => by
              cases v with
              | none => exact hK _ _ _ _ _ hv hlen H' locs' lsA hP' hS' hl
              | some v => exact hK _ _ _ _ _ hv hlen H' locs' lsA hP' hS' hl)
          · exact g2.elim
        · exact g2.elim
      · exact g2.elim
    · exact g2.elim
  case ireturn => cases h2
  case lreturn => cases h2
  case return_ => cases h2
end AM2L
section AM3L
variable {nc ns : Nat} {Q : State → Prop} {p : Program} {l : Launch} {e : Env} {R : Room} {s : State} {m : MethodId} {args : Array Value} {below : List Frame} {meth : Method} {c : Code} {cc : ByteArray} {own : String} {nL : Nat} {S : List am_C} {ad : Nat → Nat} {ca : Nat → ClassId} {D : va_G} {A : Nat → Prop}
theorem am_soundL {rb : Bool} {post : am_Po} {keys : List (Nat × Nat × Nat)} {sp : Nat → am_Sp} (X : am_X p s m args c cc own nL S ad ca D A)
    (hc : ∀ k ∈ keys, am_COL nc ns p l e R s m args below meth c cc nL S ad ca D A Q k.1 k.2.1 k.2.2 (sp k.1))
    {code : List am_E} (h1 : ∀ q ∈ code, am_chk own cc keys q = true) (h2 : ∀ q ∈ code, am_nret q = true) {cuts : List (Nat × List Nat)} : ∀ (n pc : Nat) (ls : am_Lv) (st : List Value) (I : am_I) (L : am_J), am_ev S sp rb post code cuts (am_VL nc ns p l e R s m args below meth c nL S ad ca D A Q) n pc ls st I L → am_VL nc ns p l e R s m args below meth c nL S ad ca D A Q pc ls st I L := by
  intro n
  induction n with
  | zero => intro pc ls st I L h; exact h
  | succ n ih =>
    intro pc ls st I L h
    obtain ⟨q, hq, hpc, h3⟩ := am_fd_ok h
    clear h
    subst hpc
    refine am_soundL1 X hc (fun pc' ls' st' I' L' hk => ?_) (h1 q hq) (h2 q hq) h3
    rcases am_ct_ok hk with ⟨m, hm⟩ | hk
    · obtain ⟨ls2, g1, g2, g3⟩ := am_keep_ok _ _ _ hm
      intro hlen H locs lsA hP hS hl
      exact g1 (g2.trans hlen) H locs lsA hP hS (am_lv_sub hl g3)
    · exact ih _ _ _ _ _ hk
theorem am_callRL {pc H : _} {A1 : Nat → Prop} {locs : List Loc} {lsA : Array Slot} {st0 rest : List Value} {post : am_Po} {a : Array Value} {free : Addr → Prop} (hr : va_Run p l e R s m args below meth c H locs nc ns 0 0 (F0 m pc lsA st0) rest (am_Qc S ad ca D A1 post a) free) (hS : va_S A s.heap H locs) (hA : ∀ q, q < H.size → A1 q → A q) (hf : ∀ q, free q → A q)
    (kk : ∀ (v : Option Value) (I' : am_I) (L' : am_J) (H' : Heap) (locs' : List Loc), post v I' L' → va_P D am_cl (am_w S ad ca I' L') H' → va_S A s.heap H' locs' → W p l e R s m args below meth c H' locs' nc ns Q (F0 m (pc + 3) lsA ((v.map (am_val ad)).toList ++ rest))) : W p l e R s m args below meth c H locs nc ns Q (F0 m pc lsA st0) := by
  intro T hT X
  obtain ⟨v, st₀, t, T', L, h0, X', hL, e1, e2, ⟨⟨v', I', L', hv, hp, hP⟩, hz, hk⟩, st⟩ := hr T hT X
  cases hv
  rw [h0] at hz hk
  obtain ⟨t2, a1, b1⟩ := kk v' I' L' T'.heap (locs ++ L) hp (by rw [e1]; exact hP)
    ⟨Nat.le_trans hS.1 (by rw [e1]; exact hz), fun q h1 h2 => by rw [e1, hk q (Nat.lt_of_lt_of_le h1 hS.1) (fun z => h2 (hA q (Nat.lt_of_lt_of_le h1 hS.1) z))]; exact hS.2.1 q h1 h2, fun q hq => by
      rcases List.mem_append.mp hq with h | h
      · exact hS.2.2 q h
      · exact hf _ (hL q h)⟩ T' rfl X'
  exact ⟨t2, st t2 a1, b1⟩
end AM3L
def am_CallL (nc ns : Nat) (l : Launch) (S : List am_C) (own : String) (rm : Room) (idx n k : Nat) (T : am_Sp) (sc N : Nat) (xs : Nat → Int32) : Prop :=
  ∀ (p : Program) (e : Env) (s : State) (m : MethodId) (args : Array Value) (below : List Frame) (meth : Method) (c : Code) (cc : ByteArray) (nL : Nat) (ad : Nat → Nat) (ca : Nat → ClassId) (D : va_G) (A : Nat → Prop) (Q : State → Prop), am_X p s m args c cc own nL S ad ca D A → (va_X (ad sc) N xs s s.heap ∧ ¬ A (ad sc)) → am_COL nc ns p l e rm s m args below meth c cc nL S ad ca D A Q idx n k T
theorem am_co_VL {nc ns : Nat} {l : Launch} {S : List am_C} {own : String} {rm rm' : Room} {idx n ci N : Nat} {y : MethodName} {bytes : ByteArray} {maxL : Nat} {ret : Option FieldType} {T : am_Sp} {sc NS : Nat} {xs : Nat → Int32} {TT : u_T} (hM : am_Met l S y bytes maxL ret rm' T) (hl : Cond.methodLink own idx y ∈ am_U) (hi : Cond.instanceMethod y ∈ am_U) (hse : Cond.selects y.cls y y ∈ am_U) (hini : Cond.initialized y.cls ∈ am_U) (hcode : Cond.code y bytes maxL ret ∈ am_U)
    (hd : y.cls ≠ "java/lang/invoke/MethodHandle" ∧ y.cls ≠ "java/lang/invoke/VarHandle" ∧ (parseMethodDescriptor y.desc).map (fun d => d.parameters.length) = some n) (hrc : rm'.cells = 0) (hrs : rm'.slots = 0) (hroom : nc ≤ rm.cells ∧ ns ≤ rm.slots) (hR : rm'.frames + 1 ≤ rm.frames ∧ 8 + (maxL + 11) + rm'.locals ≤ rm.locals) (hcl : am_cl[ci]? = some (y.cls, TT, N)) : am_CallL nc ns l S own rm idx (n + 1) (10 + ci) T sc NS xs := by
  intro p e s m args below meth c cc nL ad ca D A Q X _ pc vs r I L post H locs lsA hdg hlen hcat hobj hT hsz hP hS kk
  obtain ⟨hx, hb, hml, hown, hU, hN, hK, hD, hsh, hA⟩ := X
  obtain ⟨o, t, fs, rfl, hs⟩ := hobj ci rfl
  have hlen : t.length = n := by simpa using hlen
  rw [am_kind, if_neg (by omega)] at hdg
  have hfree := am_freeA (hD I L) hS hA
  have hG : GoodIn am_U (Cond.code y bytes maxL ret :: am_U) := am_goodU (fun w hw => by rcases List.mem_cons.mp hw with h | h; exact h ▸ hcode; exact h)
  refine am_callRL (H := H) (A1 := va_A (am_w S ad ca I L) H.size) (rest := r.map (am_val ad)) (free := va_A (am_w S ad ca I L) H.size) (va_runV (As := t.map (am_val ad)) (b := ad o) ⟨hx, hb, hml, hown, hU⟩ (hM ad ca D H.size (.ref o :: t) I L post hT) ⟨callB_of n hU hG rfl hrc hrs (hU _ hini) (hU _ hl) hd hR, hU _ hi, hU _ hse⟩ ⟨am_blind, va_recv hK hP hcl (am_w_get hs), fun U hU2 hW => ⟨rfl, by rw [hU2], by rw [hU2]; exact hP, va_K.moved hW.alike hK, (hD I L).weaken (fun _ _ _ _ => trivial), am_N_warm hW (fun w hw => va_Nw.of (am_N_tabs hw) (hN w hw))⟩⟩ rfl (by simpa using hlen) hsz ?_ (lv_room (by rw [am_cat_ok]; exact hcat)) hdg ⟨hroom.1, hroom.2⟩) hS (fun q _ h => hfree q h) hfree (fun v I' L' H' locs' h1 h2 h3 => ?_)
  · simp [am_val]
  · have := kk v I' L' H' locs' h1 h2 h3
    cases v <;> exact this
theorem am_co_SL {nc ns : Nat} {l : Launch} {S : List am_C} {own : String} {rm rm' : Room} {idx n : Nat} {y : MethodName} {bytes : ByteArray} {maxL : Nat} {ret : Option FieldType} {T : am_Sp} {sc NS : Nat} {xs : Nat → Int32} (hM : am_Met l S y bytes maxL ret rm' T) (hl : Cond.methodLink own idx y ∈ am_U) (hst : Cond.static y ∈ am_U) (hini : Cond.initialized y.cls ∈ am_U) (hcode : Cond.code y bytes maxL ret ∈ am_U)
    (hd : y.cls ≠ "java/lang/invoke/MethodHandle" ∧ y.cls ≠ "java/lang/invoke/VarHandle" ∧ (parseMethodDescriptor y.desc).map (fun d => d.parameters.length) = some n) (hrc : rm'.cells = 0) (hrs : rm'.slots = 0) (hroom : nc ≤ rm.cells ∧ ns ≤ rm.slots) (hR : rm'.frames + 1 ≤ rm.frames ∧ 8 + (maxL + 11) + rm'.locals ≤ rm.locals) : am_CallL nc ns l S own rm idx n 0 T sc NS xs := by
  intro p e s m args below meth c cc nL ad ca D A Q X _ pc vs r I L post H locs lsA hdg hlen hcat hobj hT hsz hP hS kk
  obtain ⟨hx, hb, hml, hown, hU, hN, hK, hD, hsh, hA⟩ := X
  rw [am_kind, if_pos rfl] at hdg
  have hfree := am_freeA (hD I L) hS hA
  have hG : GoodIn am_U (Cond.code y bytes maxL ret :: am_U) := am_goodU (fun w hw => by rcases List.mem_cons.mp hw with h | h; exact h ▸ hcode; exact h)
  refine am_callRL (H := H) (A1 := va_A (am_w S ad ca I L) H.size) (rest := r.map (am_val ad)) (free := va_A (am_w S ad ca I L) H.size) (va_runS (As := vs.map (am_val ad)) ⟨hx, hb, hml, hown, hU⟩ (hM ad ca D H.size vs I L post hT) ⟨callB_of n hU hG rfl hrc hrs (hU _ hini) (hU _ hl) hd hR, hU _ hst⟩ ⟨am_blind, fun U hU2 hW => ⟨rfl, by rw [hU2], by rw [hU2]; exact hP, va_K.moved hW.alike hK, (hD I L).weaken (fun _ _ _ _ => trivial), am_N_warm hW (fun w hw => va_Nw.of (am_N_tabs hw) (hN w hw))⟩⟩ rfl (by simpa using hlen) hsz ?_ (lv_room (by rw [am_cat_ok]; exact hcat)) hdg ⟨hroom.1, hroom.2⟩) hS (fun q _ h => hfree q h) hfree (fun v I' L' H' locs' h1 h2 h3 => ?_)
  · simp
  · have := kk v I' L' H' locs' h1 h2 h3
    cases v <;> exact this
theorem am_co_SXL {nc ns : Nat} {l : Launch} {S : List am_C} {own : String} {rm rm' : Room} {idx n : Nat} {y : MethodName} {bytes : ByteArray} {maxL : Nat} {ret : Option FieldType} {T : am_Sp} {sc N : Nat} {xs : Nat → Int32} (hM : am_MetX l S y bytes maxL ret rm' T sc N xs) (hl : Cond.methodLink own idx y ∈ am_U) (hst : Cond.static y ∈ am_U) (hini : Cond.initialized y.cls ∈ am_U) (hcode : Cond.code y bytes maxL ret ∈ am_U)
    (hd : y.cls ≠ "java/lang/invoke/MethodHandle" ∧ y.cls ≠ "java/lang/invoke/VarHandle" ∧ (parseMethodDescriptor y.desc).map (fun d => d.parameters.length) = some n) (hrc : rm'.cells = 0) (hrs : rm'.slots = 0) (hroom : nc ≤ rm.cells ∧ ns ≤ rm.slots) (hR : rm'.frames + 1 ≤ rm.frames ∧ 8 + (maxL + 11) + rm'.locals ≤ rm.locals) : am_CallL nc ns l S own rm idx n 0 T sc N xs := by
  intro p e s m args below meth c cc nL ad ca D A Q X hXs pc vs r I L post H locs lsA hdg hlen hcat hobj hT hsz hP hS kk
  obtain ⟨hx, hb, hml, hown, hU, hN, hK, hD, hsh, hA⟩ := X
  obtain ⟨hX, hnA⟩ := hXs
  rw [am_kind, if_pos rfl] at hdg
  have hfree := am_freeA (hD I L) hS hA
  have hXH : va_X (ad sc) N xs s H := hX.kept (hS.2.1 _ hX.lt hnA)
  have hne : ∀ k, k < S.length → ¬ ad k = ad sc := fun k hk e => by
    obtain ⟨c1, hc1⟩ : ∃ c1, S[k]? = some c1 := ⟨S[k], List.getElem?_eq_getElem hk⟩
    have := (hD I L).2 k _ (am_w_get hc1)
    rw [show (ad k, am_cell ad ca I L k c1).1 = ad k from rfl, e] at this
    exact hnA this
  have hG : GoodIn am_U (Cond.code y bytes maxL ret :: am_U) := am_goodU (fun w hw => by rcases List.mem_cons.mp hw with h | h; exact h ▸ hcode; exact h)
  refine am_callRL (H := H) (A1 := va_A (am_w S ad ca I L) H.size) (rest := r.map (am_val ad)) (free := va_A (am_w S ad ca I L) H.size) (va_runS (As := vs.map (am_val ad)) ⟨hx, hb, hml, hown, hU⟩ (hM ad ca D H.size vs I L post hT) ⟨callB_of n hU hG rfl hrc hrs (hU _ hini) (hU _ hl) hd hR, hU _ hst⟩ ⟨am_blindX, fun U hU2 hW => ⟨rfl, ⟨by rw [hU2], by rw [hU2]; exact hP, va_K.moved hW.alike hK, (hD I L).weaken (fun _ _ _ _ => trivial), am_N_warm hW (fun w hw => va_Nw.of (am_N_tabs hw) (hN w hw))⟩, by rw [hU2]; exact va_X.moved hW.alike hXH, hne⟩⟩ rfl (by simpa using hlen) hsz ?_ (lv_room (by rw [am_cat_ok]; exact hcat)) hdg ⟨hroom.1, hroom.2⟩) hS (fun q _ h => hfree q h) hfree (fun v I' L' H' locs' h1 h2 h3 => ?_)
  · simp
  · have := kk v I' L' H' locs' h1 h2 h3
    cases v <;> exact this
