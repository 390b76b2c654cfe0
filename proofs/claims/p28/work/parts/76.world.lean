/-! THE LAW: its loop, and from its entry -/
theorem am_wk {S : List am_C} {ad : Nat → Nat} {ca : Nat → ClassId} {I I' : am_I} {L L' : am_J} {k : Nat} {q : Nat × va_E} (hq : (am_w S ad ca I' L')[k]? = some q) : ∃ e, (am_w S ad ca I L)[k]? = some (q.1, e) := by
  unfold am_w at hq ⊢
  rw [List.getElem?_mapIdx] at hq ⊢
  cases hs : S[k]? with
  | none => rw [hs] at hq; cases hq
  | some c =>
    rw [hs] at hq
    cases hq
    exact ⟨_, rfl⟩
theorem am_D2 {S S2 : List am_C} {ad ad2 : Nat → Nat} {ca : Nat → ClassId} {I I' I2 I2' : am_I} {L L' L2 L2' : am_J} {A : Nat → Prop} (h : va_D A (am_w S ad ca I L ++ am_w S2 ad2 ca I2 L2)) : va_D A (am_w S ad ca I' L' ++ am_w S2 ad2 ca I2' L2') :=
  va_D.app (am_D (va_D_l h)) (am_D (va_D_r h)) (fun i j x y hx hy e => by
    obtain ⟨e1, h1⟩ := am_wk (I := I) (L := L) hx
    obtain ⟨e2, h2⟩ := am_wk (I := I2) (L := L2) hy
    exact va_D_x h i j _ _ h1 h2 e)
theorem lw_kinds {s : State} {args : Array Value} (hts : ∀ w ∈ lw_tbl, w.before args s = true) : ∃ (D : va_G) (ca : Nat → ClassId), va_K D am_cl (am_ty ca) s := by
  obtain ⟨cI, kI, pI, i1, i2, i3⟩ := Cond.arrayClass_spec (hts (.arrayClass .int) (am_Utbl (am_pos 84 (by decide +kernel) rfl)))
  obtain ⟨cL, kL, pL, l1, l2, l3⟩ := Cond.arrayClass_spec (hts (.arrayClass .long) (am_Utbl (am_pos 125 (by decide +kernel) rfl)))
  obtain ⟨cB, kB, pB, b1, b2, b3⟩ := Cond.arrayClass_spec (hts (.arrayClass .byte) (am_Utbl (am_pos 102 (by decide +kernel) rfl)))
  obtain ⟨pS, cS, kS, s1, _, s3, s4, s5⟩ := Cond.arrayOver_spec (hts (.arrayOver (.object "ReadPass$Sheet")) (List.mem_of_getElem? (i := 162) (by decide +kernel)))
  have hk : ∀ k : Nat, ∃ (cC : ClassId) (iS : Nat → Nat), ∀ q : vw_C, am_cl[k]? = some q → u_Kn s q.1 q.2.1 q.2.2 cC iS := by
    intro k
    match k with
    | 0 =>
      obtain ⟨cC, iS, h⟩ := u_known (C := "ReadPass") (T := am_T0) (N := 8) (n := 8) hts (fun w hw => (am_cls (ci := 0) rfl).1 w hw |>.1) (hts (.instantiable "ReadPass" 8) (am_Utbl (am_pos 26 (by decide +kernel) rfl)))
      exact ⟨cC, iS, fun q hq => by cases hq; exact h⟩
    | 1 =>
      obtain ⟨cC, iS, h⟩ := u_known (C := "ReadPass$Road") (T := am_T1) (N := 12) (n := 12) hts (fun w hw => (am_cls (ci := 1) rfl).1 w hw |>.1) (hts (.instantiable "ReadPass$Road" 12) (am_Utbl (am_pos 34 (by decide +kernel) rfl)))
      exact ⟨cC, iS, fun q hq => by cases hq; exact h⟩
    | 2 =>
      obtain ⟨cC, iS, h⟩ := u_known (C := "ReadPass$Tape") (T := am_T2) (N := 3) (n := 3) hts (fun w hw => (am_cls (ci := 2) rfl).1 w hw |>.1) (hts (.instantiable "ReadPass$Tape" 3) (am_Utbl (am_pos 86 (by decide +kernel) rfl)))
      exact ⟨cC, iS, fun q hq => by cases hq; exact h⟩
    | 3 =>
      obtain ⟨cC, iS, h⟩ := u_known (C := "ReadPass$Journey") (T := am_T3) (N := 10) (n := 10) hts (fun w hw => (am_cls (ci := 3) rfl).1 w hw |>.1) (hts (.instantiable "ReadPass$Journey" 10) (am_Utbl (am_pos 104 (by decide +kernel) rfl)))
      exact ⟨cC, iS, fun q hq => by cases hq; exact h⟩
    | 4 =>
      obtain ⟨cC, iS, h⟩ := u_known (C := "ReadPass$Seen") (T := am_T4) (N := 3) (n := 3) hts (fun w hw => (am_cls (ci := 4) rfl).1 w hw |>.1) (hts (.instantiable "ReadPass$Seen" 3) (am_Utbl (am_pos 110 (by decide +kernel) rfl)))
      exact ⟨cC, iS, fun q hq => by cases hq; exact h⟩
    | 5 =>
      obtain ⟨cC, iS, h⟩ := u_known (C := "ReadPass$Sheet") (T := am_T5) (N := 3) (n := 3) hts (fun w hw => (am_cls (ci := 5) rfl).1 w hw |>.1) (hts (.instantiable "ReadPass$Sheet" 3) (am_Utbl (am_pos 163 (by decide +kernel) rfl)))
      exact ⟨cC, iS, fun q hq => by cases hq; exact h⟩
    | k + 6 => exact ⟨cI, fun _ => 0, fun q hq => by simp [am_cl] at hq⟩
  refine ⟨(fun k => Classical.choose (hk k), fun k => Classical.choose (Classical.choose_spec (hk k))), fun k => match k with
    | 0 => cI
    | 1 => cL
    | 2 => cB
    | _ => cS, fun k q hq => Classical.choose_spec (Classical.choose_spec (hk k)) q hq, fun k q hq => ?_⟩
  match k, hq with
  | 0, hq => cases hq; exact ⟨fun n z => ⟨fun k h => (by cases h), kI, i2, pI, i3⟩, i1⟩
  | 1, hq => cases hq; exact ⟨fun n z => ⟨fun k h => (by cases h), kL, l2, pL, l3⟩, l1⟩
  | 2, hq => cases hq; exact ⟨fun n z => ⟨fun k h => (by cases h), kB, b2, pB, b3⟩, b1⟩
  | 3, hq => cases hq; exact ⟨fun n z => ⟨fun k h => (by cases h), kS, s3, pS, s4⟩, kS, pS, s3, s4, s1, s5⟩
  | k + 4, hq => simp [am_ty] at hq
theorem d_law_0 : decode code 0 = .ok (.new 28, 3) := by decide +kernel
theorem d_law_3 : decode code 3 = .ok (.dup, 1) := by decide +kernel
theorem d_law_4 : decode code 4 = .ok (.invokespecial 131, 3) := by decide +kernel
theorem d_law_7 : decode code 7 = .ok (.astore_n 1, 1) := by decide +kernel
theorem d_law_8 : decode code 8 = .ok (.new 28, 3) := by decide +kernel
theorem d_law_11 : decode code 11 = .ok (.dup, 1) := by decide +kernel
theorem d_law_12 : decode code 12 = .ok (.invokespecial 131, 3) := by decide +kernel
theorem d_law_15 : decode code 15 = .ok (.astore_n 2, 1) := by decide +kernel
theorem d_law_16 : decode code 16 = .ok (.bipush 51, 2) := by decide +kernel
theorem d_law_18 : decode code 18 = .ok (.newarray .int, 2) := by decide +kernel
theorem d_law_20 : decode code 20 = .ok (.astore_n 3, 1) := by decide +kernel
theorem d_law_239 : decode code 239 = .ok (.ireturn, 1) := by decide +kernel
set_option maxRecDepth 100000 in
set_option maxHeartbeats 4000000 in
theorem start_X {p : Program} {l : Launch} {e : Env} {s : State} {m : MethodId} {below : List Frame} {meth : Method} {c : Code} {b L : Nat} {xs : Nat → Int32} {D : va_G} {ca : Nat → ClassId} {ws : va_W} {H : Heap} {locs : List Loc} {ls : Array Slot}  (C0 : lw_At p s m meth c b L xs) (hK : va_K D am_cl (am_ty ca) s) (hP : va_P D am_cl ws H) (hD : va_D (fun q : Nat => s.heap.size ≤ q) ws) (hS : va_S (fun q : Nat => s.heap.size ≤ q) s.heap H locs) (hl : lv_has ls 7 [(0, .ref b)])
    (kk : ∀ (q0 : Nat) (u : Nat → Nat) (H1 : Heap) (locs1 : List Loc) (ls : Array Slot), va_P D am_cl (ws ++ am_w am_SX (x_ad q0 u) ca x_I x_L) H1 → va_D (fun q : Nat => s.heap.size ≤ q) (ws ++ am_w am_SX (x_ad q0 u) ca x_I x_L) → va_S (fun q : Nat => s.heap.size ≤ q) s.heap H1 locs1 → lv_has ls 7 [(1, .ref q0), (0, .ref b)] → W p l e room_1 s m #[Value.ref b] below meth c H1 locs1 35 1632 (lw_Z below #[Value.ref b] s) (F0 m 8 ls [])) : W p l e room_1 s m #[Value.ref b] below meth c H locs 0 0 (lw_Z below #[Value.ref b] s) (F0 m 0 ls []) := by
  obtain ⟨hx, hb, hr, hml, hown, hts, hX, hbl, hlocks, hgv⟩ := id C0
  have hA : ∀ q : Nat, s.heap.size ≤ q → (fun q : Nat => s.heap.size ≤ q) q := fun _ h => h
  have hU : ∀ w ∈ am_U, w.before #[Value.ref b] s = true := fun w hw => hts w (am_Utbl hw)
  have hN : ∀ w ∈ am_N, w.before #[Value.ref b] s = true := fun w hw => hts w (List.mem_filter.mp hw).1
  have hNw : ∀ w ∈ am_N, va_Nw w s := fun w hw => va_Nw.of (am_N_tabs hw) (hN w hw)
  have hO : va_AO "ReadPass$Sheet" s := va_AO.of (hts (.arrayOver (.object "ReadPass$Sheet")) (List.mem_of_getElem? (i := 162) (by decide +kernel)))
  refine va_new (ci := 0) (fs := [.null, .null, .null, .null, .null, .null, .null, .int 0]) (C := "ReadPass") (T := am_T0) (N := 8) hx hb hU (am_clU (ci := 0) rfl) am_t0 am_t0_ok hown (hU _ (am_pos 25 (by decide +kernel) rfl)) (hU _ (am_pos 26 (by decide +kernel) rfl)) (hU _ (am_pos 15 (by decide +kernel) rfl)) hK hP hD hS hA rfl (fun j hj => by rcases (show j = 0 ∨ j = 1 ∨ j = 2 ∨ j = 3 ∨ j = 4 ∨ j = 5 ∨ j = 6 ∨ j = 7 by omega) with rfl | rfl | rfl | rfl | rfl | rfl | rfl | rfl <;> rfl) (Nat.le_of_ble_eq_true rfl) (Nat.le_of_ble_eq_true rfl) d_law_0 (fun q0 H hP hD hS => ?_)
  refine W.widen (k := 1) (n := 8) (Nat.le_of_ble_eq_true rfl) (Nat.le_of_ble_eq_true rfl) ?_
  refine lv_dup hx hb d_law_3 rfl ?_
  have hFc := va_free2 hD hS hA
  have hPc := va_P_r hP
  have hDc := va_D_r hD
  refine va_callv (va_runI (As := []) (rest := [.ref q0]) ⟨hx, hb, hml, hown, hU⟩ (ini_RP_init D ca q0 H.size) ⟨callB_of 0 hU (am_goodC (w := .code ⟨"ReadPass", "<init>", "()V"⟩ prog_1_method_1_code 2 none) (am_pos 29 (by decide +kernel) rfl)) rfl rfl rfl (hU _ (am_pos 15 (by decide +kernel) rfl)) (hU _ (am_pos 27 (by decide +kernel) rfl)) ⟨by decide +kernel, by decide +kernel, by decide +kernel⟩ ⟨Nat.le_of_ble_eq_true rfl, Nat.le_of_ble_eq_true rfl⟩, rfl, hU _ (am_pos 28 (by decide +kernel) rfl)⟩ ⟨am_blind0, fun U hU2 hW => ⟨rfl, by rw [hU2], by rw [hU2]; exact hPc, va_K.moved hW.alike hK, hDc.weaken (fun _ _ _ _ => trivial), am_N_warm hW hNw, va_AO.moved hW.alike hO⟩⟩ rfl rfl hl.1 rfl (lv_room (Nat.le_of_ble_eq_true rfl)) d_law_4 ⟨Nat.le_of_ble_eq_true rfl, Nat.le_of_ble_eq_true rfl⟩) hS (fun q _ h => hFc q h) hFc (fun u4 t H1 locs ht hvm hw hB hz1 hk1 hS => ?_)
  obtain ⟨hP1, hD1⟩ := hB
  rw [ht] at hP1
  obtain ⟨hP1, hD1⟩ := x_start (h0 := q0) (u := u4) hP1 hD1
  obtain ⟨hP, hD⟩ := va_cut (va_P_l hP) hD hk1 hFc hP1 hD1
  refine W.widen (k := 35) (n := 1632) (Nat.le_of_ble_eq_true rfl) (Nat.le_of_ble_eq_true rfl) ?_
  refine lv_astore_n (lv' := [(1, .ref q0), (0, .ref b)]) hx hb d_law_7 rfl hl (by decide) rfl (fun ls hl => ?_)
  exact kk q0 u4 H1 locs ls hP hD hS hl
set_option maxRecDepth 100000 in
set_option maxHeartbeats 4000000 in
theorem start_Y {p : Program} {l : Launch} {e : Env} {s : State} {m : MethodId} {below : List Frame} {meth : Method} {c : Code} {b L : Nat} {xs : Nat → Int32} {D : va_G} {ca : Nat → ClassId} {ws : va_W} {H : Heap} {locs : List Loc} {ls : Array Slot} {q0 : Nat} (C0 : lw_At p s m meth c b L xs) (hK : va_K D am_cl (am_ty ca) s) (hP : va_P D am_cl ws H) (hD : va_D (fun q : Nat => s.heap.size ≤ q) ws) (hS : va_S (fun q : Nat => s.heap.size ≤ q) s.heap H locs) (hl : lv_has ls 7 [(1, .ref q0), (0, .ref b)])
    (kk : ∀ (q8 : Nat) (u : Nat → Nat) (H1 : Heap) (locs1 : List Loc) (ls : Array Slot), va_P D am_cl (ws ++ am_w am_SX (x_ad q8 u) ca x_I x_L) H1 → va_D (fun q : Nat => s.heap.size ≤ q) (ws ++ am_w am_SX (x_ad q8 u) ca x_I x_L) → va_S (fun q : Nat => s.heap.size ≤ q) s.heap H1 locs1 → lv_has ls 7 [(2, .ref q8), (1, .ref q0), (0, .ref b)] → W p l e room_1 s m #[Value.ref b] below meth c H1 locs1 70 3264 (lw_Z below #[Value.ref b] s) (F0 m 16 ls [])) : W p l e room_1 s m #[Value.ref b] below meth c H locs 35 1632 (lw_Z below #[Value.ref b] s) (F0 m 8 ls []) := by
  obtain ⟨hx, hb, hr, hml, hown, hts, hX, hbl, hlocks, hgv⟩ := id C0
  have hA : ∀ q : Nat, s.heap.size ≤ q → (fun q : Nat => s.heap.size ≤ q) q := fun _ h => h
  have hU : ∀ w ∈ am_U, w.before #[Value.ref b] s = true := fun w hw => hts w (am_Utbl hw)
  have hN : ∀ w ∈ am_N, w.before #[Value.ref b] s = true := fun w hw => hts w (List.mem_filter.mp hw).1
  have hNw : ∀ w ∈ am_N, va_Nw w s := fun w hw => va_Nw.of (am_N_tabs hw) (hN w hw)
  have hO : va_AO "ReadPass$Sheet" s := va_AO.of (hts (.arrayOver (.object "ReadPass$Sheet")) (List.mem_of_getElem? (i := 162) (by decide +kernel)))
  refine va_new (ci := 0) (fs := [.null, .null, .null, .null, .null, .null, .null, .int 0]) (C := "ReadPass") (T := am_T0) (N := 8) hx hb hU (am_clU (ci := 0) rfl) am_t0 am_t0_ok hown (hU _ (am_pos 25 (by decide +kernel) rfl)) (hU _ (am_pos 26 (by decide +kernel) rfl)) (hU _ (am_pos 15 (by decide +kernel) rfl)) hK hP hD hS hA rfl (fun j hj => by rcases (show j = 0 ∨ j = 1 ∨ j = 2 ∨ j = 3 ∨ j = 4 ∨ j = 5 ∨ j = 6 ∨ j = 7 by omega) with rfl | rfl | rfl | rfl | rfl | rfl | rfl | rfl <;> rfl) (Nat.le_of_ble_eq_true rfl) (Nat.le_of_ble_eq_true rfl) d_law_8 (fun q8 H hP hD hS => ?_)
  refine W.widen (k := 36) (n := 1640) (Nat.le_of_ble_eq_true rfl) (Nat.le_of_ble_eq_true rfl) ?_
  refine lv_dup hx hb d_law_11 rfl ?_
  have hFc := va_free2 hD hS hA
  have hPc := va_P_r hP
  have hDc := va_D_r hD
  refine va_callv (va_runI (As := []) (rest := [.ref q8]) ⟨hx, hb, hml, hown, hU⟩ (ini_RP_init D ca q8 H.size) ⟨callB_of 0 hU (am_goodC (w := .code ⟨"ReadPass", "<init>", "()V"⟩ prog_1_method_1_code 2 none) (am_pos 29 (by decide +kernel) rfl)) rfl rfl rfl (hU _ (am_pos 15 (by decide +kernel) rfl)) (hU _ (am_pos 27 (by decide +kernel) rfl)) ⟨by decide +kernel, by decide +kernel, by decide +kernel⟩ ⟨Nat.le_of_ble_eq_true rfl, Nat.le_of_ble_eq_true rfl⟩, rfl, hU _ (am_pos 28 (by decide +kernel) rfl)⟩ ⟨am_blind0, fun U hU2 hW => ⟨rfl, by rw [hU2], by rw [hU2]; exact hPc, va_K.moved hW.alike hK, hDc.weaken (fun _ _ _ _ => trivial), am_N_warm hW hNw, va_AO.moved hW.alike hO⟩⟩ rfl rfl hl.1 rfl (lv_room (Nat.le_of_ble_eq_true rfl)) d_law_12 ⟨Nat.le_of_ble_eq_true rfl, Nat.le_of_ble_eq_true rfl⟩) hS (fun q _ h => hFc q h) hFc (fun u12 t H1 locs ht hvm hw hB hz1 hk1 hS => ?_)
  obtain ⟨hP1, hD1⟩ := hB
  rw [ht] at hP1
  obtain ⟨hP1, hD1⟩ := x_start (h0 := q8) (u := u12) hP1 hD1
  obtain ⟨hP, hD⟩ := va_cut (va_P_l hP) hD hk1 hFc hP1 hD1
  refine W.widen (k := 70) (n := 3264) (Nat.le_of_ble_eq_true rfl) (Nat.le_of_ble_eq_true rfl) ?_
  refine lv_astore_n (lv' := [(2, .ref q8), (1, .ref q0), (0, .ref b)]) hx hb d_law_15 rfl hl (by decide) rfl (fun ls hl => ?_)
  exact kk q8 u12 H1 locs ls hP hD hS hl
/-! the law's world, all in one -/
def am_rf35 : am_C → Bool
  | .inl (_, fs) => fs.all (fun c => decide (c < 38))
  | .inr (_, _, rs) => rs.all (fun r => decide (r < 35))
theorem am_fs_ad {ad ad' : Nat → Nat} (h : ∀ n, n < 35 → ad n = ad' n) {I : am_I} {L : am_J} {o : Nat} : ∀ (fs : List Nat) (i : Nat), fs.all (fun c => decide (c < 38)) = true → am_fs ad I L o i fs = am_fs ad' I L o i fs := by
  intro fs
  induction fs with
  | nil => intro i _; rfl
  | cons x fs ih =>
    intro i hx
    rw [List.all_cons, Bool.and_eq_true, decide_eq_true_eq] at hx
    show am_fv ad I L o i x :: am_fs ad I L o (i + 1) fs = am_fv ad' I L o i x :: am_fs ad' I L o (i + 1) fs
    rw [ih (i + 1) hx.2]
    congr 1
    match x, hx with
    | 0, _ => rfl
    | 1, _ => rfl
    | 2, _ => rfl
    | n + 3, hx => show Value.ref (ad n) = Value.ref (ad' n); rw [h n (by omega)]
theorem am_cell_ad {ad ad' : Nat → Nat} (h : ∀ n, n < 35 → ad n = ad' n) {ca : Nat → ClassId} {I : am_I} {L : am_J} {o : Nat} (c : am_C) (hc : am_rf35 c = true) : am_cell ad ca I L o c = am_cell ad' ca I L o c := by
  match c, hc with
  | .inl (ci, fs), hc =>
    show Sum.inr (ci, am_fs ad I L o 0 fs) = Sum.inr (ci, am_fs ad' I L o 0 fs)
    rw [am_fs_ad h fs 0 hc]
  | .inr (0, n, rs), _ => rfl
  | .inr (1, n, rs), _ => rfl
  | .inr (2, n, rs), _ => rfl
  | .inr (k + 3, n, rs), hc =>
    have hm : ∀ j : Nat, (rs[j]?).map ad = (rs[j]?).map ad' := fun j => by
      cases hj : rs[j]? with
      | none => rfl
      | some r =>
        have hr := List.all_eq_true.mp (show rs.all (fun r => decide (r < 35)) = true from hc) r (List.mem_of_getElem? hj)
        rw [Option.map_some, Option.map_some, h r (of_decide_eq_true hr)]
    show Sum.inl (ca 3, n, Sum.inr (Sum.inr (Sum.inr (Sum.inr (fun j : Nat => (rs[j]?).map ad))))) = _
    rw [funext hm]
    rfl
theorem am_SX_rf : am_SX.all am_rf35 = true := by decide +kernel
def b_ad (aO aQ : Nat → Nat) (v b : Nat) : Nat → Nat := fun k => if k < 35 then aO k else if k < 70 then aQ (k - 35) else if k = 70 then v else b
def b_I : am_I := fun a => if a < 35 then x_I a else if a < 70 then x_I (a - 35) else fun _ => 0
def b_L : am_J := fun _ _ => 0
theorem am_w_len (S : List am_C) (ad : Nat → Nat) (ca : Nat → ClassId) (I : am_I) (L : am_J) : (am_w S ad ca I L).length = S.length := by
  unfold am_w
  rw [List.length_mapIdx]
theorem b_world {aO aQ : Nat → Nat} {v b : Nat} {ca : Nat → ClassId} {D : va_G} {A : Nat → Prop} {H : Heap} (hP : va_P D am_cl ((am_w am_SX aO ca x_I x_L ++ am_w am_SX aQ ca x_I x_L) ++ [(v, .inl (ca 0, 51, .inl (fun _ => 0)))]) H) (hD : va_D A ((am_w am_SX aO ca x_I x_L ++ am_w am_SX aQ ca x_I x_L) ++ [(v, .inl (ca 0, 51, .inl (fun _ => 0)))])) : va_P D am_cl (am_w am_SB (b_ad aO aQ v b) ca b_I b_L) H ∧ va_D A (am_w am_SB (b_ad aO aQ v b) ca b_I b_L) := by
  have lX : am_SX.length = 35 := rfl
  have rf : ∀ (k : Nat) (c : am_C), am_SX[k]? = some c → am_rf35 c = true := fun k c hc => List.all_eq_true.mp am_SX_rf c (List.mem_of_getElem? hc)
  refine am_w_of (fun k => k) (fun k c hc => ?_) (fun i j _ _ e => e) hP hD
  have lw1 : (am_w am_SX aO ca x_I x_L).length = 35 := am_w_len _ _ _ _ _
  have lw2 : (am_w am_SX aQ ca x_I x_L).length = 35 := am_w_len _ _ _ _ _
  have lm : (am_SX.map (am_mv am_f1)).length = 35 := by rw [List.length_map]; rfl
  unfold am_SB at hc
  rcases Nat.lt_or_ge k 35 with h1 | h1
  · rw [List.getElem?_append_left (by omega)] at hc
    rw [List.getElem?_append_left (by rw [List.length_append]; omega), List.getElem?_append_left (by omega), am_w_get hc]
    have e1 : b_ad aO aQ v b k = aO k := by unfold b_ad; rw [if_pos h1]
    rw [e1, am_cell_ad (ad := aO) (ad' := b_ad aO aQ v b) (fun n hn => by unfold b_ad; rw [if_pos hn]) c (rf k c hc), am_cell_congr (I' := x_I) (I := b_I) (L' := x_L) (L := b_L) (by unfold b_I; rw [if_pos h1]) rfl c]
  · rw [List.getElem?_append_right (by omega), lX] at hc
    rcases Nat.lt_or_ge k 70 with h2 | h2
    · rw [List.getElem?_append_left (by omega), List.getElem?_map] at hc
      obtain ⟨c1, hc1, hc2⟩ := Option.map_eq_some_iff.mp hc
      rw [List.getElem?_append_left (by rw [List.length_append]; omega), List.getElem?_append_right (by omega), lw1, am_w_get hc1, ← hc2]
      have e1 : b_ad aO aQ v b k = aQ (k - 35) := by unfold b_ad; rw [if_neg (by omega), if_pos h2]
      have e2 : am_f1 (k - 35) = k := by unfold am_f1; omega
      have e3 := am_mv_cell (f := am_f1) (ad := b_ad aO aQ v b) (ca := ca) (I := x_I) (I' := b_I) (L := x_L) (L' := b_L) (o := k - 35) (by rw [e2]; unfold b_I; rw [if_neg (by omega), if_pos h2]) rfl c1
      rw [e2] at e3
      rw [e1, ← e3, am_cell_ad (ad := aQ) (ad' := fun j => b_ad aO aQ v b (am_f1 j)) (fun n hn => by unfold b_ad am_f1; rw [if_neg (by omega), if_pos (by omega)]; simp) c1 (rf _ c1 hc1)]
    · rw [List.getElem?_append_right (by omega), lm] at hc
      have h3 : k = 70 := by
        rcases Nat.lt_or_ge k 71 with z | z
        · omega
        · rw [List.getElem?_eq_none (by simp; omega)] at hc
          cases hc
      subst h3
      cases hc
      rw [List.getElem?_append_right (by rw [List.length_append]; omega), List.length_append, lw1, lw2]
      rfl
theorem SB_0 : SB b_I b_L A_0 A_0 := by
  refine ⟨CR_fr CR_0 (fun a ha => ?_) (fun a ha => rfl), CR_fr CR_0 (fun a ha => ?_) (fun a ha => rfl)⟩
  · unfold b_I
    rw [if_pos (by omega)]
  · show b_I (a + 35) = x_I a
    unfold b_I
    rw [if_neg (by omega), if_pos (by omega)]
    simp
