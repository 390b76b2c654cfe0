/-! THE LAW, from its entry -/
set_option maxRecDepth 100000 in
set_option maxHeartbeats 4000000 in
theorem whole_start {p : Program} {e : Env} {s : State} {m : MethodId} {below : List Frame} {meth : Method} {c : Code} (l : Launch) (hflags : l.flags = flags0) {b L : Nat} {xs : Nat → Int32} (hL : L ≤ 260) (C0 : lw_At p s m meth c b L xs) : W p l e room_1 s m #[Value.ref b] below meth c s.heap [] 0 0 (lw_Z below #[Value.ref b] s) (entryFrame m ([Value.ref b] : List Value).toArray 7) := by
  obtain ⟨hx, hb, hr, hml, hown, hts, hX, hbl, hlocks, hgv⟩ := id C0
  have hA : ∀ q : Nat, s.heap.size ≤ q → (fun q : Nat => s.heap.size ≤ q) q := fun _ h => h
  have hU : ∀ w ∈ am_U, w.before #[Value.ref b] s = true := fun w hw => hts w (am_Utbl hw)
  have hN : ∀ w ∈ am_N, w.before #[Value.ref b] s = true := fun w hw => hts w (List.mem_filter.mp hw).1
  obtain ⟨D, ca, hK⟩ := lw_kinds hts
  have hS : va_S (fun q : Nat => s.heap.size ≤ q) s.heap s.heap [] := va_S.rf
  have hP : va_P D am_cl [] s.heap := fun k q h => by simp at h
  have hD : va_D (fun q : Nat => s.heap.size ≤ q) [] := ⟨fun i j p q h => by simp at h, fun k q h => by simp at h⟩
  have hl := lv_entry ([.ref b]) (n := 7) (Nat.le_of_ble_eq_true rfl)
  rw [lg_entry_eq]
  generalize (lg_sl ([.ref b]) ++ List.replicate (7 - (lg_sl ([.ref b])).length) Slot.unset).toArray = ls at hl ⊢
  have hl : lv_has ls 7 [(0, .ref b)] := hl
  refine start_X C0 hK hP hD hS hl (fun q0 u4 H locs ls hP hD hS hl => ?_)
  have hadX : q0 = x_ad q0 u4 0 := rfl
  generalize x_ad q0 u4 = aO at hP hD hadX
  refine start_Y C0 hK (va_P_r hP) (va_D_r hD) hS hl (fun q8 u12 H locs ls hP hD hS hl => ?_)
  have hadY : q8 = x_ad q8 u12 0 := rfl
  generalize x_ad q8 u12 = aQ at hP hD hadY
  refine lv_bipush (v := 51) hx hb d_law_16 (by decide) ?_
  refine am_newa (atype := .int) (ty := .int) (ca := ca) (a0 := (51, .inl (fun _ => 0))) (N' := 51) hx hb (hU _ (am_pos 84 (by decide +kernel) rfl)) rfl 0 rfl (by intro C h; cases h) hK hP hD hS hA (fun _ => rfl) (by decide) (by decide) (Nat.le_of_ble_eq_true rfl) (Nat.le_of_ble_eq_true rfl) (Nat.le_of_ble_eq_true rfl) d_law_18 (fun qv H hP hD hS => ?_)
  refine W.widen (k := 600000) (n := 7302250) (Nat.le_of_ble_eq_true rfl) (Nat.le_of_ble_eq_true rfl) ?_
  refine lv_astore_n (lv' := [(3, .ref qv), (2, .ref q8), (1, .ref q0), (0, .ref b)]) hx hb d_law_20 rfl hl (by decide) rfl (fun ls hl => ?_)
  obtain ⟨hPB, hDB⟩ := b_world (b := b) hP hD
  have hl2 : lv_has ls 7 (am_lc (b_ad aO aQ qv b) 0 [some (.ref 71), some (.ref 0), some (.ref 35), some (.ref 70), none, none, none]) := by
    show lv_has ls 7 [(0, .ref b), (1, .ref (aO 0)), (2, .ref (aQ 0)), (3, .ref qv)]
    rw [← hadX, ← hadY]
    exact lv_sub hl [3, 2, 1, 0] rfl
  have X : am_X p s m #[Value.ref b] c code "ReadPassLaw" 7 am_SB (b_ad aO aQ qv b) ca D (fun q : Nat => s.heap.size ≤ q) := ⟨hx, hb, hml, hown, hU, hN, hK, fun I' L' => am_D hDB, am_shB, hA⟩
  have hsc : va_X (b_ad aO aQ qv b 71) L xs s s.heap ∧ ¬ (fun q : Nat => s.heap.size ≤ q) (b_ad aO aQ qv b 71) := ⟨hX, Nat.not_le.mpr hbl⟩
  exact law_run (ce := ce_ L xs) (post := fun _ _ _ => True) (G := am_VL 600000 7302250 p l e room_1 s m #[Value.ref b] below meth c 7 am_SB (b_ad aO aQ qv b) ca D (fun q : Nat => s.heap.size ≤ q) (lw_Z below #[Value.ref b] s))
    (fun cuts n pc ls st I L h => am_soundL X (fun k hk => law_calls hL k hk p e s m _ below meth c code 7 _ ca D _ _ X hsc) (fun q hq => List.all_eq_true.mp law_chk q hq) (fun q hq => List.all_eq_true.mp law_nret q hq) n pc ls st I L h)
    (fun ls I L hlen H locs lsA hP hS hl => by
      show W p l e room_1 s m #[Value.ref b] below meth c H locs 600000 7302250 (lw_Z below #[Value.ref b] s) (F0 m 239 lsA [.int 1])
      refine va_forget hS.2.2 ?_
      exact lw_ret hx hb hr hlocks d_law_239)
    SB_0 rfl H _ ls hPB hS hl2
