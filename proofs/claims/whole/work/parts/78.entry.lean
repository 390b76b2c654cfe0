/-! THE LAW, from its entry -/
set_option maxRecDepth 100000 in
set_option maxHeartbeats 4000000 in
theorem start_X {p : Program} {l : Launch} {e : Env} {s : State} {m : MethodId} {below : List Frame} {meth : Method} {c : Code} {b L : Nat} {xs : Nat → Int32} {D : va_G} {ca : Nat → ClassId} {ws : va_W} {H : Heap} {locs : List Loc} {ls : Array Slot}  (C0 : lw_At p s m meth c b L xs) (hK : va_K D am_cl (am_ty ca) s) (hP : va_P D am_cl ws H) (hD : va_D (fun q : Nat => s.heap.size ≤ q) ws) (hS : va_S (fun q : Nat => s.heap.size ≤ q) s.heap H locs) (hl : lv_has ls 4 [(0, .ref b)])
    (kk : ∀ (q0 : Nat) (u : Nat → Nat) (H1 : Heap) (locs1 : List Loc) (ls : Array Slot), va_P D am_cl (ws ++ am_w am_SX (x_ad q0 u) ca x_I x_L) H1 → va_D (fun q : Nat => s.heap.size ≤ q) (ws ++ am_w am_SX (x_ad q0 u) ca x_I x_L) → va_S (fun q : Nat => s.heap.size ≤ q) s.heap H1 locs1 → lv_has ls 4 [(1, .ref q0), (0, .ref b)] → W p l e room_1 s m #[Value.ref b] below meth c H1 locs1 35 1632 (lw_Z below #[Value.ref b] s) (F0 m 8 ls [])) : W p l e room_1 s m #[Value.ref b] below meth c H locs 0 0 (lw_Z below #[Value.ref b] s) (F0 m 0 ls []) := by
  obtain ⟨hx, hb, hr, hml, hown, hts, hX, hbl, hlocks, hgv⟩ := id C0
  have hA : ∀ q : Nat, s.heap.size ≤ q → (fun q : Nat => s.heap.size ≤ q) q := fun _ h => h
  have hU : ∀ w ∈ am_U, w.before #[Value.ref b] s = true := fun w hw => hts w (am_Utbl hw)
  have hN : ∀ w ∈ am_N, w.before #[Value.ref b] s = true := fun w hw => hts w (List.mem_filter.mp hw).1
  have hNw : ∀ w ∈ am_N, va_Nw w s := fun w hw => va_Nw.of (am_N_tabs hw) (hN w hw)
  have hO : va_AO "ReadPass$Sheet" s := va_AO.of (hts (.arrayOver (.object "ReadPass$Sheet")) (List.mem_of_getElem? (i := 183) (by decide +kernel)))
  refine va_new (ci := 0) (fs := [.null, .null, .null, .null, .null, .null, .null, .int 0]) (C := "ReadPass") (T := am_T0) (N := 8) hx hb hU (am_clU (ci := 0) rfl) am_t0 am_t0_ok hown (hU _ (am_pos 46 (by decide +kernel) rfl)) (hU _ (am_pos 47 (by decide +kernel) rfl)) (hU _ (am_pos 35 (by decide +kernel) rfl)) hK hP hD hS hA rfl (fun j hj => by rcases (show j = 0 ∨ j = 1 ∨ j = 2 ∨ j = 3 ∨ j = 4 ∨ j = 5 ∨ j = 6 ∨ j = 7 by omega) with rfl | rfl | rfl | rfl | rfl | rfl | rfl | rfl <;> rfl) (Nat.le_of_ble_eq_true rfl) (Nat.le_of_ble_eq_true rfl) d_law_0 (fun q0 H hP hD hS => ?_)
  refine W.widen (k := 1) (n := 8) (Nat.le_of_ble_eq_true rfl) (Nat.le_of_ble_eq_true rfl) ?_
  refine lv_dup hx hb d_law_3 rfl ?_
  have hFc := va_free2 hD hS hA
  have hPc := va_P_r hP
  have hDc := va_D_r hD
  refine va_callv (va_runI (As := []) (rest := [.ref q0]) ⟨hx, hb, hml, hown, hU⟩ (ini_RP_init D ca q0 H.size) ⟨callB_of 0 hU (am_goodC (w := .code ⟨"ReadPass", "<init>", "()V"⟩ prog_1_method_1_code 2 none) (am_pos 50 (by decide +kernel) rfl)) rfl rfl rfl (hU _ (am_pos 35 (by decide +kernel) rfl)) (hU _ (am_pos 48 (by decide +kernel) rfl)) ⟨by decide +kernel, by decide +kernel, by decide +kernel⟩ ⟨Nat.le_of_ble_eq_true rfl, Nat.le_of_ble_eq_true rfl⟩, rfl, hU _ (am_pos 49 (by decide +kernel) rfl)⟩ ⟨am_blind0, fun U hU2 hW => ⟨rfl, by rw [hU2], by rw [hU2]; exact hPc, va_K.moved hW.alike hK, hDc.weaken (fun _ _ _ _ => trivial), am_N_warm hW hNw, va_AO.moved hW.alike hO⟩⟩ rfl rfl hl.1 rfl (lv_room (Nat.le_of_ble_eq_true rfl)) d_law_4 ⟨Nat.le_of_ble_eq_true rfl, Nat.le_of_ble_eq_true rfl⟩) hS (fun q _ h => hFc q h) hFc (fun u4 t H1 locs ht hvm hw hB hz1 hk1 hS => ?_)
  obtain ⟨hP1, hD1⟩ := hB
  rw [ht] at hP1
  obtain ⟨hP1, hD1⟩ := x_start (h0 := q0) (u := u4) hP1 hD1
  obtain ⟨hP, hD⟩ := va_cut (va_P_l hP) hD hk1 hFc hP1 hD1
  refine W.widen (k := 35) (n := 1632) (Nat.le_of_ble_eq_true rfl) (Nat.le_of_ble_eq_true rfl) ?_
  refine lv_astore_n (lv' := [(1, .ref q0), (0, .ref b)]) hx hb d_law_7 rfl hl (by decide) rfl (fun ls hl => ?_)
  exact kk q0 u4 H1 locs ls hP hD hS hl
set_option maxRecDepth 100000 in
set_option maxHeartbeats 4000000 in
theorem start_M {p : Program} {l : Launch} {e : Env} {s : State} {m : MethodId} {below : List Frame} {meth : Method} {c : Code} {b L : Nat} {xs : Nat → Int32} {D : va_G} {ca : Nat → ClassId} {ws : va_W} {H : Heap} {locs : List Loc} {ls : Array Slot} {q0 : Nat} (C0 : lw_At p s m meth c b L xs) (hK : va_K D am_cl (am_ty ca) s) (hP : va_P D am_cl ws H) (hD : va_D (fun q : Nat => s.heap.size ≤ q) ws) (hS : va_S (fun q : Nat => s.heap.size ≤ q) s.heap H locs) (hl : lv_has ls 4 [(1, .ref q0), (0, .ref b)])
    (kk : ∀ (q8 : Nat) (u : Nat → Nat) (H1 : Heap) (locs1 : List Loc) (ls : Array Slot), va_P D am_cl (ws ++ am_w am_SM (m_ad q8 u) ca m_I0 x_L) H1 → va_D (fun q : Nat => s.heap.size ≤ q) (ws ++ am_w am_SM (m_ad q8 u) ca m_I0 x_L) → va_S (fun q : Nat => s.heap.size ≤ q) s.heap H1 locs1 → lv_has ls 4 [(2, .ref q8), (1, .ref q0), (0, .ref b)] → W p l e room_1 s m #[Value.ref b] below meth c H1 locs1 52 40804 (lw_Z below #[Value.ref b] s) (F0 m 16 ls [])) : W p l e room_1 s m #[Value.ref b] below meth c H locs 35 1632 (lw_Z below #[Value.ref b] s) (F0 m 8 ls []) := by
  obtain ⟨hx, hb, hr, hml, hown, hts, hX, hbl, hlocks, hgv⟩ := id C0
  have hA : ∀ q : Nat, s.heap.size ≤ q → (fun q : Nat => s.heap.size ≤ q) q := fun _ h => h
  have hU : ∀ w ∈ am_U, w.before #[Value.ref b] s = true := fun w hw => hts w (am_Utbl hw)
  have hN : ∀ w ∈ am_N, w.before #[Value.ref b] s = true := fun w hw => hts w (List.mem_filter.mp hw).1
  have hNw : ∀ w ∈ am_N, va_Nw w s := fun w hw => va_Nw.of (am_N_tabs hw) (hN w hw)
  have hO : va_AO "ReadPass$Sheet" s := va_AO.of (hts (.arrayOver (.object "ReadPass$Sheet")) (List.mem_of_getElem? (i := 183) (by decide +kernel)))
  refine va_new (ci := 6) (fs := [.null, .int 0, .null, .int 0, .int 0, .null, .null, .int 0, .int 0, .null, .null, .int 0, .null, .null, .null, .int 0, .int 0, .int 0, .int 0, .null, .int 0, .null, .null, .int 0, .null, .null, .null, .null]) (C := "ReadPassModel") (T := am_T6) (N := 28) hx hb hU (am_clU (ci := 6) rfl) am_t6 am_t6_ok hown (hU _ (am_pos 576 (by decide +kernel) rfl)) (hU _ (am_pos 577 (by decide +kernel) rfl)) (hU _ (am_pos 41 (by decide +kernel) rfl)) hK hP hD hS hA rfl (fun j hj => by rcases (show j = 0 ∨ j = 1 ∨ j = 2 ∨ j = 3 ∨ j = 4 ∨ j = 5 ∨ j = 6 ∨ j = 7 ∨ j = 8 ∨ j = 9 ∨ j = 10 ∨ j = 11 ∨ j = 12 ∨ j = 13 ∨ j = 14 ∨ j = 15 ∨ j = 16 ∨ j = 17 ∨ j = 18 ∨ j = 19 ∨ j = 20 ∨ j = 21 ∨ j = 22 ∨ j = 23 ∨ j = 24 ∨ j = 25 ∨ j = 26 ∨ j = 27 by omega) with rfl | rfl | rfl | rfl | rfl | rfl | rfl | rfl | rfl | rfl | rfl | rfl | rfl | rfl | rfl | rfl | rfl | rfl | rfl | rfl | rfl | rfl | rfl | rfl | rfl | rfl | rfl | rfl <;> rfl) (Nat.le_of_ble_eq_true rfl) (Nat.le_of_ble_eq_true rfl) d_law_8 (fun q8 H hP hD hS => ?_)
  refine W.widen (k := 36) (n := 1660) (Nat.le_of_ble_eq_true rfl) (Nat.le_of_ble_eq_true rfl) ?_
  refine lv_dup hx hb d_law_11 rfl ?_
  have hFc := va_free2 hD hS hA
  have hPc := va_P_r hP
  have hDc := va_D_r hD
  refine va_callv (va_runI (As := []) (rest := [.ref q8]) ⟨hx, hb, hml, hown, hU⟩ (ini_MD_init D ca q8 H.size) ⟨callB_of 0 hU (am_goodC (w := .code ⟨"ReadPassModel", "<init>", "()V"⟩ prog_10_method_1_code 2 none) (am_pos 580 (by decide +kernel) rfl)) rfl rfl rfl (hU _ (am_pos 41 (by decide +kernel) rfl)) (hU _ (am_pos 578 (by decide +kernel) rfl)) ⟨by decide +kernel, by decide +kernel, by decide +kernel⟩ ⟨Nat.le_of_ble_eq_true rfl, Nat.le_of_ble_eq_true rfl⟩, rfl, hU _ (am_pos 579 (by decide +kernel) rfl)⟩ ⟨am_blind0, fun U hU2 hW => ⟨rfl, by rw [hU2], by rw [hU2]; exact hPc, va_K.moved hW.alike hK, hDc.weaken (fun _ _ _ _ => trivial), am_N_warm hW hNw, va_AO.moved hW.alike hO⟩⟩ rfl rfl hl.1 rfl (lv_room (Nat.le_of_ble_eq_true rfl)) d_law_12 ⟨Nat.le_of_ble_eq_true rfl, Nat.le_of_ble_eq_true rfl⟩) hS (fun q _ h => hFc q h) hFc (fun u12 t H1 locs ht hvm hw hB hz1 hk1 hS => ?_)
  obtain ⟨hP1, hD1⟩ := hB
  rw [ht] at hP1
  obtain ⟨hP1, hD1⟩ := m_start (h0 := q8) (u := u12) hP1 hD1
  obtain ⟨hP, hD⟩ := va_cut (va_P_l hP) hD hk1 hFc hP1 hD1
  refine W.widen (k := 52) (n := 40804) (Nat.le_of_ble_eq_true rfl) (Nat.le_of_ble_eq_true rfl) ?_
  refine lv_astore_n (lv' := [(2, .ref q8), (1, .ref q0), (0, .ref b)]) hx hb d_law_15 rfl hl (by decide) rfl (fun ls hl => ?_)
  exact kk q8 u12 H1 locs ls hP hD hS hl
set_option maxRecDepth 100000 in
set_option maxHeartbeats 4000000 in
theorem whole_start {p : Program} {e : Env} {s : State} {m : MethodId} {below : List Frame} {meth : Method} {c : Code} (l : Launch) (hflags : l.flags = flags0) {b L : Nat} {xs : Nat → Int32} (hL : L ≤ 4096) (C0 : lw_At p s m meth c b L xs) : W p l e room_1 s m #[Value.ref b] below meth c s.heap [] 0 0 (lw_Z below #[Value.ref b] s) (entryFrame m ([Value.ref b] : List Value).toArray 4) := by
  obtain ⟨hx, hb, hr, hml, hown, hts, hX, hbl, hlocks, hgv⟩ := id C0
  have hU : ∀ w ∈ am_U, w.before #[Value.ref b] s = true := fun w hw => hts w (am_Utbl hw)
  have hN : ∀ w ∈ am_N, w.before #[Value.ref b] s = true := fun w hw => hts w (List.mem_filter.mp hw).1
  obtain ⟨D, ca, hK⟩ := lw_kinds hts
  have hS : va_S (fun q : Nat => s.heap.size ≤ q) s.heap s.heap [] := va_S.rf
  have hP : va_P D am_cl [] s.heap := fun k q h => by simp at h
  have hD : va_D (fun q : Nat => s.heap.size ≤ q) [] := ⟨fun i j p q h => by simp at h, fun k q h => by simp at h⟩
  have hl := lv_entry ([.ref b]) (n := 4) (Nat.le_of_ble_eq_true rfl)
  rw [lg_entry_eq]
  generalize (lg_sl ([.ref b]) ++ List.replicate (4 - (lg_sl ([.ref b])).length) Slot.unset).toArray = ls at hl ⊢
  have hl : lv_has ls 4 [(0, .ref b)] := hl
  refine start_X C0 hK hP hD hS hl (fun q0 u4 H locs ls hP hD hS hl => ?_)
  have hadX : q0 = x_ad q0 u4 0 := rfl
  generalize x_ad q0 u4 = adX at hP hD hadX
  refine start_M C0 hK (va_P_r hP) (va_D_r hD) hS hl (fun q8 u12 H locs ls hP hD hS hl => ?_)
  have hadM : q8 = m_ad q8 u12 0 := rfl
  generalize m_ad q8 u12 = adM at hP hD hadM
  refine W.widen (k := 600000) (n := 7302250) (Nat.le_of_ble_eq_true rfl) (Nat.le_of_ble_eq_true rfl) ?_
  refine lv_iconst (v := 0) hx hb d_law_16 (by decide) ?_
  refine lv_istore_n (lv' := [(3, .int 0), (2, .ref q8), (1, .ref q0), (0, .ref b)]) hx hb d_law_17 rfl hl (by decide) rfl (fun ls hl => ?_)
  rw [hadX, hadM] at hl
  have E : lw_E p s m c b D ca adX adM := ⟨hx, hb, hml, hown, hU, hN, hK, fun I L I2 L2 => am_D2 hD⟩
  exact law_loop hL C0 E (L + 8) 0 (by omega) (by omega) A_0 0 H locs ls (by omega) (lv_sub hl [3, 2, 1, 0] rfl) ⟨x_I, x_L, m_I0, x_L, CR_0, MR_0, va_P_l hP, va_P_r hP, hS⟩
