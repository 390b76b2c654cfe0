/-! THE LAW: its loop, and from its entry -/
theorem am_wk {S : List am_C} {ad : Nat → Nat} {ca : Nat → ClassId} {I I' : am_I} {L L' : am_J} {k : Nat} {q : Nat × va_E} (hq : (am_w S ad ca I' L')[k]? = some q) : ∃ e, (am_w S ad ca I L)[k]? = some (q.1, e) := by
  unfold am_w at hq ⊢
  rw [List.getElem?_mapIdx] at hq ⊢
  cases hs : S[k]? with
  | none => rw [hs] at hq; cases hq
  | some c =>
    rw [hs] at hq
    cases hq
    exact ⟨_, rfl⟩
theorem am_D2 {S S2 : List am_C} {ad ad2 : Nat → Nat} {ca : Nat → ClassId} {I I' I2 I2' : am_I} {L L' L2 L2' : am_J} {A : Nat → Prop} (h : va_D A (am_w S ad ca I L ++ am_w S2 ad2 ca I2 L2)) : va_D A (am_w S ad ca I' L' ++ am_w S2 ad2 ca I2' L2') :=
  va_D.app (am_D (va_D_l h)) (am_D (va_D_r h)) (fun i j x y hx hy e => by
    obtain ⟨e1, h1⟩ := am_wk (I := I) (L := L) hx
    obtain ⟨e2, h2⟩ := am_wk (I := I2) (L := L2) hy
    exact va_D_x h i j _ _ h1 h2 e)
theorem lw_kinds {s : State} {args : Array Value} (hts : ∀ w ∈ lw_tbl, w.before args s = true) : ∃ (D : va_G) (ca : Nat → ClassId), va_K D am_cl (am_ty ca) s := by
  obtain ⟨cI, kI, pI, i1, i2, i3⟩ := Cond.arrayClass_spec (hts (.arrayClass .int) (am_Utbl (am_pos 105 (by decide +kernel) rfl)))
  obtain ⟨cL, kL, pL, l1, l2, l3⟩ := Cond.arrayClass_spec (hts (.arrayClass .long) (am_Utbl (am_pos 146 (by decide +kernel) rfl)))
  obtain ⟨cB, kB, pB, b1, b2, b3⟩ := Cond.arrayClass_spec (hts (.arrayClass .byte) (am_Utbl (am_pos 123 (by decide +kernel) rfl)))
  obtain ⟨pS, cS, kS, s1, _, s3, s4, s5⟩ := Cond.arrayOver_spec (hts (.arrayOver (.object "ReadPass$Sheet")) (List.mem_of_getElem? (i := 183) (by decide +kernel)))
  have hk : ∀ k : Nat, ∃ (cC : ClassId) (iS : Nat → Nat), ∀ q : vw_C, am_cl[k]? = some q → u_Kn s q.1 q.2.1 q.2.2 cC iS := by
    intro k
    match k with
    | 0 =>
      obtain ⟨cC, iS, h⟩ := u_known (C := "ReadPass") (T := am_T0) (N := 8) (n := 8) hts (fun w hw => (am_cls (ci := 0) rfl).1 w hw |>.1) (hts (.instantiable "ReadPass" 8) (am_Utbl (am_pos 47 (by decide +kernel) rfl)))
      exact ⟨cC, iS, fun q hq => by cases hq; exact h⟩
    | 1 =>
      obtain ⟨cC, iS, h⟩ := u_known (C := "ReadPass$Road") (T := am_T1) (N := 12) (n := 12) hts (fun w hw => (am_cls (ci := 1) rfl).1 w hw |>.1) (hts (.instantiable "ReadPass$Road" 12) (am_Utbl (am_pos 55 (by decide +kernel) rfl)))
      exact ⟨cC, iS, fun q hq => by cases hq; exact h⟩
    | 2 =>
      obtain ⟨cC, iS, h⟩ := u_known (C := "ReadPass$Tape") (T := am_T2) (N := 3) (n := 3) hts (fun w hw => (am_cls (ci := 2) rfl).1 w hw |>.1) (hts (.instantiable "ReadPass$Tape" 3) (am_Utbl (am_pos 107 (by decide +kernel) rfl)))
      exact ⟨cC, iS, fun q hq => by cases hq; exact h⟩
    | 3 =>
      obtain ⟨cC, iS, h⟩ := u_known (C := "ReadPass$Journey") (T := am_T3) (N := 10) (n := 10) hts (fun w hw => (am_cls (ci := 3) rfl).1 w hw |>.1) (hts (.instantiable "ReadPass$Journey" 10) (am_Utbl (am_pos 125 (by decide +kernel) rfl)))
      exact ⟨cC, iS, fun q hq => by cases hq; exact h⟩
    | 4 =>
      obtain ⟨cC, iS, h⟩ := u_known (C := "ReadPass$Seen") (T := am_T4) (N := 3) (n := 3) hts (fun w hw => (am_cls (ci := 4) rfl).1 w hw |>.1) (hts (.instantiable "ReadPass$Seen" 3) (am_Utbl (am_pos 131 (by decide +kernel) rfl)))
      exact ⟨cC, iS, fun q hq => by cases hq; exact h⟩
    | 5 =>
      obtain ⟨cC, iS, h⟩ := u_known (C := "ReadPass$Sheet") (T := am_T5) (N := 3) (n := 3) hts (fun w hw => (am_cls (ci := 5) rfl).1 w hw |>.1) (hts (.instantiable "ReadPass$Sheet" 3) (am_Utbl (am_pos 184 (by decide +kernel) rfl)))
      exact ⟨cC, iS, fun q hq => by cases hq; exact h⟩
    | 6 =>
      obtain ⟨cC, iS, h⟩ := u_known (C := "ReadPassModel") (T := am_T6) (N := 28) (n := 28) hts (fun w hw => (am_cls (ci := 6) rfl).1 w hw |>.1) (hts (.instantiable "ReadPassModel" 28) (am_Utbl (am_pos 577 (by decide +kernel) rfl)))
      exact ⟨cC, iS, fun q hq => by cases hq; exact h⟩
    | k + 7 => exact ⟨cI, fun _ => 0, fun q hq => by simp [am_cl] at hq⟩
  refine ⟨(fun k => Classical.choose (hk k), fun k => Classical.choose (Classical.choose_spec (hk k))), fun k => match k with
    | 0 => cI
    | 1 => cL
    | 2 => cB
    | _ => cS, fun k q hq => Classical.choose_spec (Classical.choose_spec (hk k)) q hq, fun k q hq => ?_⟩
  match k, hq with
  | 0, hq => cases hq; exact ⟨fun n z => ⟨fun k h => (by cases h), kI, i2, pI, i3⟩, i1⟩
  | 1, hq => cases hq; exact ⟨fun n z => ⟨fun k h => (by cases h), kL, l2, pL, l3⟩, l1⟩
  | 2, hq => cases hq; exact ⟨fun n z => ⟨fun k h => (by cases h), kB, b2, pB, b3⟩, b1⟩
  | 3, hq => cases hq; exact ⟨fun n z => ⟨fun k h => (by cases h), kS, s3, pS, s4⟩, kS, pS, s3, s4, s1, s5⟩
  | k + 4, hq => simp [am_ty] at hq
theorem d_law_18 : decode code 18 = .ok (.iload_n 3, 1) := by decide +kernel
theorem d_law_19 : decode code 19 = .ok (.aload_n 0, 1) := by decide +kernel
theorem d_law_20 : decode code 20 = .ok (.arraylength, 1) := by decide +kernel
theorem d_law_21 : decode code 21 = .ok (.bipush 8, 2) := by decide +kernel
theorem d_law_23 : decode code 23 = .ok (.isub, 1) := by decide +kernel
theorem d_law_24 : decode code 24 = .ok (.if_icmp .gt 1107, 3) := by decide +kernel
theorem d_law_27 : decode code 27 = .ok (.aload_n 0, 1) := by decide +kernel
theorem d_law_28 : decode code 28 = .ok (.iload_n 3, 1) := by decide +kernel
theorem d_law_29 : decode code 29 = .ok (.iaload, 1) := by decide +kernel
theorem d_law_30 : decode code 30 = .ok (.bipush 31, 2) := by decide +kernel
theorem d_law_32 : decode code 32 = .ok (.iand, 1) := by decide +kernel
theorem d_law_33 : decode code 33 = .ok (.tableswitch 1092 0 24 #[115, 174, 207, 250, 273, 306, 329, 352, 415, 428, 451, 484, 527, 570, 603, 626, 649, 692, 705, 718, 805, 880, 923, 946, 1029], 115) := by decide +kernel
theorem d_law_1125 : decode code 1125 = .ok (.iinc 3 8, 3) := by decide +kernel
theorem d_law_1128 : decode code 1128 = .ok (.goto (-1110), 3) := by decide +kernel
theorem d_law_1131 : decode code 1131 = .ok (.iconst 1, 1) := by decide +kernel
theorem d_law_1132 : decode code 1132 = .ok (.ireturn, 1) := by decide +kernel
set_option maxRecDepth 100000 in
set_option maxHeartbeats 8000000 in
theorem law_loop {p : Program} {l : Launch} {e : Env} {s : State} {m : MethodId} {below : List Frame} {meth : Method} {c : Code} {b L : Nat} {xs : Nat → Int32} {D : va_G} {ca : Nat → ClassId} {adX adM : Nat → Nat} (hL : L ≤ 4096) (C0 : lw_At p s m meth c b L xs) (E : lw_E p s m c b D ca adX adM) : ∀ (n k : Nat), L + 8 - 8 * k ≤ n → 8 * k ≤ L → ∀ (A : am_A) (cn : Nat) (H : Heap) (locs : List Loc) (ls : Array Slot), cn ≤ 4096 * k → lv_has ls 4 [(0, .ref b), (1, .ref (adX 0)), (2, .ref (adM 0)), (3, .int (nI (8 * k)))] → lw_St s D ca adX adM (fun I L => CR I L A) (fun I L => MR I L A cn) H locs → W p l e room_1 s m #[Value.ref b] below meth c H locs 600000 7302250 (lw_Z below #[Value.ref b] s) (F0 m 18 ls []) := by
  obtain ⟨hx, hb, hr, hml0, hown0, hts, hX, hbl, hlocks, hgv⟩ := id C0
  obtain ⟨_, _, hml, hown, hU, hN, hK, hD⟩ := id E
  have hbA : ¬ (fun q : Nat => s.heap.size ≤ q) b := Nat.not_le.mpr hbl
  intro n
  induction n with
  | zero => intro k hn hk; omega
  | succ n ih =>
    intro k hn hk A cn H locs ls hcn hl hSt
    have hS := hSt.S
    refine lv_iload_n hx hb d_law_18 rfl (lv_at hl 3 rfl) ?_
    refine lv_aload_n hx hb d_law_19 rfl (lv_at hl 0 rfl) ?_
    refine va_slen hx hb hX hbl hbA hS d_law_20 ?_
    refine lv_bipush (v := 8) hx hb d_law_21 (by decide) ?_
    refine lv_isub hx hb d_law_23 ?_
    have e8 : (Int32.ofNat L - 8).toInt = (L : Int) - 8 := by
      rw [Int32.toInt_sub, show (Int32.ofNat L).toInt = (L : Int) from nI_toInt (n := L) (by omega), show (8 : Int32).toInt = 8 from rfl]
      exact Int.bmod_eq_of_le (by omega) (by omega)
    have hlt : Int32.ofNat L - 8 < nI (8 * k) ↔ L < 8 * k + 8 := by
      rw [Int32.lt_iff_toInt_lt, e8, nI_toInt (by omega)]
      omega
    refine lv_icmp_gt (tgt := 1131) hx hb d_law_24 (by decide) (fun hz => ?_) (fun hz => ?_)
    · refine lv_iconst (v := 1) hx hb d_law_1131 (by decide) ?_
      refine va_forget hS.2.2 ?_
      exact lw_ret hx hb hr hlocks d_law_1132
    · have h8 : 8 * k + 8 ≤ L := Nat.not_lt.mp (fun q => hz (hlt.mpr q))
      have hi : ∀ j : Nat, j < 8 → vp_in (nI (8 * k) + nI j) L := fun j hj => by rw [nI_add]; exact vp_in_nI (by omega) (by omega)
      have hi0 : vp_in (nI (8 * k)) L := vp_in_nI (by omega) (by omega)
      refine lv_aload_n hx hb d_law_27 rfl (lv_at hl 0 rfl) ?_
      refine lv_iload_n hx hb d_law_28 rfl (lv_at hl 3 rfl) ?_
      refine va_sld hx hb hX hbl hbA hS hi0 d_law_29 ?_
      refine lv_bipush (v := 31) hx hb d_law_30 (by decide) ?_
      refine lv_iand hx hb d_law_32 ?_
      have next : ∀ (A2 : am_A) (c2 : Nat) (H2 : Heap) (locs2 : List Loc), c2 ≤ cn + 4096 → lw_St s D ca adX adM (fun I L => CR I L A2) (fun I L => MR I L A2 c2) H2 locs2 → W p l e room_1 s m #[Value.ref b] below meth c H2 locs2 600000 7302250 (lw_Z below #[Value.ref b] s) (F0 m 1125 ls []) := by
        intro A2 c2 H2 locs2 hc2 hSt2
        refine lv_iinc (v := nI (8 * (k + 1))) (lv' := [(3, .int (nI (8 * (k + 1)))), (0, .ref b), (1, .ref (adX 0)), (2, .ref (adM 0))]) hx hb d_law_1125 hl (k := 3) rfl ?_ (by decide) rfl (fun ls hl => ?_)
        · show nI (8 * k) + nI 8 = nI (8 * (k + 1))
          rw [nI_add, show 8 * k + 8 = 8 * (k + 1) by omega]
        · refine lv_goto (tgt := 18) hx hb d_law_1128 (by decide) ?_
          exact ih (k + 1) (by omega) (by omega) A2 c2 H2 locs2 ls (by omega) (lv_sub hl [1, 2, 3, 0] rfl) hSt2
      obtain ⟨j, hj, ej⟩ := pk_andE (xs (nI (8 * k)).toNatClampNeg) (m := 31) 5 (by decide)
      rw [ej]
      have hcn2 : cn + 4096 ≤ 1073741824 := by omega
      by_cases h25 : j < 25
      · match j, h25 with
        | 0, _ => exact lv_tableIn (tgt := 148) (off := 115) hx hb d_law_33 (by decide) (by decide) (by decide +kernel) (by decide) (law_0 E hX hbl hi hcn2 hl hSt next)
        | 1, _ => exact lv_tableIn (tgt := 207) (off := 174) hx hb d_law_33 (by decide) (by decide) (by decide +kernel) (by decide) (law_1 E hX hbl hi hcn2 hl hSt next)
        | 2, _ => exact lv_tableIn (tgt := 240) (off := 207) hx hb d_law_33 (by decide) (by decide) (by decide +kernel) (by decide) (law_2 E hX hbl hi hcn2 hl hSt next)
        | 3, _ => exact lv_tableIn (tgt := 283) (off := 250) hx hb d_law_33 (by decide) (by decide) (by decide +kernel) (by decide) (law_3 E hX hbl hi hcn2 hl hSt next)
        | 4, _ => exact lv_tableIn (tgt := 306) (off := 273) hx hb d_law_33 (by decide) (by decide) (by decide +kernel) (by decide) (law_4 E hX hbl hi hcn2 hl hSt next)
        | 5, _ => exact lv_tableIn (tgt := 339) (off := 306) hx hb d_law_33 (by decide) (by decide) (by decide +kernel) (by decide) (law_5 E hX hbl hi hcn2 hl hSt next)
        | 6, _ => exact lv_tableIn (tgt := 362) (off := 329) hx hb d_law_33 (by decide) (by decide) (by decide +kernel) (by decide) (law_6 E hX hbl hi hcn2 hl hSt next)
        | 7, _ => exact lv_tableIn (tgt := 385) (off := 352) hx hb d_law_33 (by decide) (by decide) (by decide +kernel) (by decide) (law_7 E hX hbl hi hcn2 hl hSt next)
        | 8, _ => exact lv_tableIn (tgt := 448) (off := 415) hx hb d_law_33 (by decide) (by decide) (by decide +kernel) (by decide) (law_8 E hX hbl hi hcn2 hl hSt next)
        | 9, _ => exact lv_tableIn (tgt := 461) (off := 428) hx hb d_law_33 (by decide) (by decide) (by decide +kernel) (by decide) (law_9 E hX hbl hi hcn2 hl hSt next)
        | 10, _ => exact lv_tableIn (tgt := 484) (off := 451) hx hb d_law_33 (by decide) (by decide) (by decide +kernel) (by decide) (law_10 E hX hbl hi hcn2 hl hSt next)
        | 11, _ => exact lv_tableIn (tgt := 517) (off := 484) hx hb d_law_33 (by decide) (by decide) (by decide +kernel) (by decide) (law_11 E hX hbl hi hcn2 hl hSt next)
        | 12, _ => exact lv_tableIn (tgt := 560) (off := 527) hx hb d_law_33 (by decide) (by decide) (by decide +kernel) (by decide) (law_12 E hX hbl hi hcn2 hl hSt next)
        | 13, _ => exact lv_tableIn (tgt := 603) (off := 570) hx hb d_law_33 (by decide) (by decide) (by decide +kernel) (by decide) (law_13 E hX hbl hi hcn2 hl hSt next)
        | 14, _ => exact lv_tableIn (tgt := 636) (off := 603) hx hb d_law_33 (by decide) (by decide) (by decide +kernel) (by decide) (law_14 E hX hbl hi hcn2 hl hSt next)
        | 15, _ => exact lv_tableIn (tgt := 659) (off := 626) hx hb d_law_33 (by decide) (by decide) (by decide +kernel) (by decide) (law_15 E hX hbl hi hcn2 hl hSt next)
        | 16, _ => exact lv_tableIn (tgt := 682) (off := 649) hx hb d_law_33 (by decide) (by decide) (by decide +kernel) (by decide) (law_16 E hX hbl hi hcn2 hl hSt next)
        | 17, _ => exact lv_tableIn (tgt := 725) (off := 692) hx hb d_law_33 (by decide) (by decide) (by decide +kernel) (by decide) (law_17 E hX hbl hi hcn2 hl hSt next)
        | 18, _ => exact lv_tableIn (tgt := 738) (off := 705) hx hb d_law_33 (by decide) (by decide) (by decide +kernel) (by decide) (law_18 E hX hbl hi hcn2 hl hSt next)
        | 19, _ => exact lv_tableIn (tgt := 751) (off := 718) hx hb d_law_33 (by decide) (by decide) (by decide +kernel) (by decide) (law_19 E hX hbl hi hcn2 hl hSt next)
        | 20, _ => exact lv_tableIn (tgt := 838) (off := 805) hx hb d_law_33 (by decide) (by decide) (by decide +kernel) (by decide) (law_20 E hX hbl hi hcn2 hl hSt next)
        | 21, _ => exact lv_tableIn (tgt := 913) (off := 880) hx hb d_law_33 (by decide) (by decide) (by decide +kernel) (by decide) (law_21 E hX hbl hi hcn2 hl hSt next)
        | 22, _ => exact lv_tableIn (tgt := 956) (off := 923) hx hb d_law_33 (by decide) (by decide) (by decide +kernel) (by decide) (law_22 E hX hbl hi hcn2 hl hSt next)
        | 23, _ => exact lv_tableIn (tgt := 979) (off := 946) hx hb d_law_33 (by decide) (by decide) (by decide +kernel) (by decide) (law_23 E hX hbl hi hcn2 hl hSt next)
        | 24, _ => exact lv_tableIn (tgt := 1062) (off := 1029) hx hb d_law_33 (by decide) (by decide) (by decide +kernel) (by decide) (law_24 E hX hbl hi hcn2 hl hSt next)
        | j + 25, h => omega
      · refine lv_tableOut (tgt := 1125) hx hb d_law_33 (Or.inr ?_) (by decide) (next A cn H locs (by omega) hSt)
        rw [nI_toInt (by omega)]
        omega
theorem d_law_0 : decode code 0 = .ok (.new 7, 3) := by decide +kernel
theorem d_law_3 : decode code 3 = .ok (.dup, 1) := by decide +kernel
theorem d_law_4 : decode code 4 = .ok (.invokespecial 9, 3) := by decide +kernel
theorem d_law_7 : decode code 7 = .ok (.astore_n 1, 1) := by decide +kernel
theorem d_law_8 : decode code 8 = .ok (.new 10, 3) := by decide +kernel
theorem d_law_11 : decode code 11 = .ok (.dup, 1) := by decide +kernel
theorem d_law_12 : decode code 12 = .ok (.invokespecial 12, 3) := by decide +kernel
theorem d_law_15 : decode code 15 = .ok (.astore_n 2, 1) := by decide +kernel
theorem d_law_16 : decode code 16 = .ok (.iconst 0, 1) := by decide +kernel
theorem d_law_17 : decode code 17 = .ok (.istore_n 3, 1) := by decide +kernel
