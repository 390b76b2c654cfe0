/-! THE CONSTRUCTORS -/
section INI
variable {p : Program} {l : Launch} {e : Env} {R : Room} {s : State} {m : MethodId} {args : Array Value} {below : List Frame} {meth : Method} {c : Code} {H : Heap} {locs : List Loc} {cells slots : Nat} {Q : State → Prop} {cc : ByteArray} {pc : Nat} {ls : Array Slot} {rest : List Value} {D : va_G} {ca : Nat → ClassId} {A : Nat → Prop} {ws : va_W} {H0 : Heap}
theorem am_newa (hx : p.tables.exec = Jvm.exec) (hb : c.code = cc) {atype : ArrayType} (harr : (Cond.arrayClass (newarray.typeOf atype)).before args s = true) {ty : FieldType} (hty : newarray.typeOf atype = ty) (t0 : Nat) {cT : ClassId} (ht : (am_ty ca)[t0]? = some (cT, ty)) (hpr : ∀ C, ¬ ty = .object C) (hK : va_K D am_cl (am_ty ca) s) (hP : va_P D am_cl ws H) (hD : va_D A ws) (hS : va_S A H0 H locs) (hA : ∀ q, H0.size ≤ q → A q)
    {n : Int32} {N' : Nat} {a0 : vp_A} (ha : ∀ cA : ClassId, vp_cell cA a0 = arrV cA N' (fun _ => defaultValue ty)) (hn : ¬ n < 0) (hN : n.toNatClampNeg = N') (hbytes : N' * componentBytes ty ≤ 536870912) (hcells : cells + 1 ≤ R.cells) (hslots : slots + N' ≤ R.slots) (hdg : decode cc pc = .ok (.newarray atype, 2))
    (kk : ∀ (q : Nat) (H1 : Heap), va_P D am_cl (ws ++ [(q, .inl (cT, a0))]) H1 → va_D A (ws ++ [(q, .inl (cT, a0))]) → va_S A H0 H1 locs → W p l e R s m args below meth c H1 locs (cells + 1) (slots + N') Q (F0 m (pc + 2) ls (.ref q :: rest))) : W p l e R s m args below meth c H locs cells slots Q (F0 m pc ls (.int n :: rest)) :=
  va_newa hx hb harr hty hK hP hD hS hA ha hn hN hbytes hcells hslots hdg (fun q cA H1 hK1 hP1 hD1 hS1 => by
    have f1 := (hK1.2 4 (cA, ty) rfl).2
    have f2 := (hK.2 t0 _ ht).2
    have e : cA = cT := by
      cases ty <;> first | exact Option.some.inj (f1.symm.trans f2) | exact absurd rfl (hpr _)
    subst e
    exact kk q H1 hP1 hD1 hS1)
theorem am_newq (hx : p.tables.exec = Jvm.exec) (hb : c.code = cc) {own : String} {index : Nat} (hown : s.vm.findClass own = some m.cls) (hclink : (Cond.classLink own index "ReadPass$Sheet").before args s = true) (hO : va_AO "ReadPass$Sheet" s) (hK : va_K D am_cl (am_ty ca) s) (hP : va_P D am_cl ws H) (hD : va_D A ws) (hS : va_S A H0 H locs) (hA : ∀ q, H0.size ≤ q → A q)
    {n : Int32} {N' : Nat} (hn : ¬ n < 0) (hN : n.toNatClampNeg = N') (hbytes : N' * 4 ≤ 536870912) (hcells : cells + 1 ≤ R.cells) (hslots : slots + N' ≤ R.slots) (hdg : decode cc pc = .ok (.anewarray index, 3))
    (kk : ∀ (q : Nat) (H1 : Heap), va_P D am_cl (ws ++ [(q, .inl (ca 3, N', .inr (.inr (.inr (.inr (fun _ => none))))))]) H1 → va_D A (ws ++ [(q, .inl (ca 3, N', .inr (.inr (.inr (.inr (fun _ => none))))))]) → va_S A H0 H1 locs → W p l e R s m args below meth c H1 locs (cells + 1) (slots + N') Q (F0 m (pc + 3) ls (.ref q :: rest))) : W p l e R s m args below meth c H locs cells slots Q (F0 m pc ls (.int n :: rest)) :=
  va_newq hx hb hown hclink hO hK hP hD hS hA hn hN hbytes hcells hslots hdg (fun q cA H1 hK1 hP1 hD1 hS1 => by
    obtain ⟨_, _, _, _, _, f1⟩ := (hK1.2 4 (cA, .object "ReadPass$Sheet") rfl).2
    obtain ⟨_, _, _, _, _, f2⟩ := (hK.2 3 (ca 3, .object "ReadPass$Sheet") rfl).2
    have e : cA = ca 3 := Option.some.inj (f1.symm.trans f2)
    subst e
    exact kk q H1 hP1 hD1 hS1)
end INI
theorem va_P_l {D : va_G} {cl : List vw_C} {w1 w2 : va_W} {H : Heap} (h : va_P D cl (w1 ++ w2) H) : va_P D cl w1 H := fun k q hk => h k q (by rw [List.getElem?_append_left (List.getElem?_eq_some_iff.mp hk).1]; exact hk)
theorem va_P_r {D : va_G} {cl : List vw_C} {w1 w2 : va_W} {H : Heap} (h : va_P D cl (w1 ++ w2) H) : va_P D cl w2 H := fun k q hk => h (w1.length + k) q (by rw [List.getElem?_append_right (by omega), show w1.length + k - w1.length = k by omega]; exact hk)
theorem va_P_a {D : va_G} {cl : List vw_C} {w1 w2 : va_W} {H : Heap} (h1 : va_P D cl w1 H) (h2 : va_P D cl w2 H) : va_P D cl (w1 ++ w2) H := fun k q hk => by
  rcases Nat.lt_or_ge k w1.length with z | z
  · rw [List.getElem?_append_left z] at hk; exact h1 k q hk
  · rw [List.getElem?_append_right z] at hk; exact h2 _ q hk
/-- behind a constructor: what was ahead of the new object stays -/
theorem va_cut {A0 : Nat → Prop} {D : va_G} {cl : List vw_C} {ws w0 w1 : va_W} {H H1 : Heap} (hP : va_P D cl ws H) (hD : va_D A0 (ws ++ w0)) (hk : ∀ q : Nat, q < H.size → ¬ va_A w0 H.size q → H1[q]? = H[q]?) (hF : ∀ q, va_A w0 H.size q → A0 q) (hP1 : va_P D cl w1 H1) (hD1 : va_D (va_A w0 H.size) w1) : va_P D cl (ws ++ w1) H1 ∧ va_D A0 (ws ++ w1) := by
  have key : ∀ (i : Nat) (x : Nat × va_E), ws[i]? = some x → ¬ va_A w0 H.size x.1 := fun i x hi h => by
    rcases h with ⟨k, e, h⟩ | h
    · exact va_D_x hD i k x _ hi h rfl
    · have := (hP i x hi).lt; omega
  refine ⟨va_P_a (hP.kept (fun k x hx => hk x.1 (hP k x hx).lt (key k x hx))) hP1, va_D.app (va_D_l hD) (hD1.weaken (fun k q _ h => hF q.1 h)) (fun i j x y hx hy hxy => ?_)⟩
  exact key i x hx (by rw [hxy]; exact hD1.2 j y hy)
theorem va_free2 {A0 : Nat → Prop} {ws w0 : va_W} {H0 H : Heap} {locs : List Loc} (hD : va_D A0 (ws ++ w0)) (hS : va_S A0 H0 H locs) (hA : ∀ q, H0.size ≤ q → A0 q) : ∀ q, va_A w0 H.size q → A0 q := by
  intro q h
  rcases h with ⟨k, e, h⟩ | h
  · exact (va_D_r hD).2 k (q, e) h
  · exact hA q (Nat.le_trans hS.1 h)
def am_B0 (D : va_G) (ca : Nat → ClassId) (sz : Nat) (w0 : va_W) : State → Prop := fun U => U.heap.size = sz ∧ va_P D am_cl w0 U.heap ∧ va_K D am_cl (am_ty ca) U ∧ va_D (fun _ => True) w0 ∧ (∀ w ∈ am_N, va_Nw w U) ∧ va_AO "ReadPass$Sheet" U
theorem am_blind0 {vs : List Value} {D : va_G} {ca : Nat → ClassId} {sz : Nat} {w0 : va_W} : FrameBlind (va_Pc vs (am_B0 D ca sz w0)) := by
  intro a U g mk q
  obtain ⟨e, h1, h2, h3, h4, h5, h6⟩ := q
  exact ⟨e, h1, h2, va_K.moved (u := U) (U := U.calling g mk a) (Vm.Alike.refl U.vm) h3, h4, fun w hw => va_Nw.same (u := U) (U := U.calling g mk a) (am_N_tabs hw) rfl (h5 w hw), va_AO.moved (u := U) (U := U.calling g mk a) (Vm.Alike.refl U.vm) h6⟩
theorem am_clU {ci N : Nat} {C : String} {T : u_T} (h : am_cl[ci]? = some (C, T, N)) : ∀ w ∈ u_ws C T N, w ∈ am_U := fun w hw => List.mem_filter.mpr ((am_cls h).1 w hw)
def am_t0 : Nat → FieldType := fun k => match k with
  | 0 => .object "ReadPass$Road"
  | 1 => .object "ReadPass$Road"
  | 2 => .object "ReadPass$Road"
  | 3 => .object "ReadPass$Tape"
  | 4 => .object "ReadPass$Journey"
  | 5 => .array (.object "ReadPass$Sheet")
  | 6 => .array .int
  | _ => .boolean
theorem am_t0_ok : ∀ k, k < 8 → parseFieldDescriptor (am_T0 k).2.2.1 = some (am_t0 k) := by decide +kernel
def am_t1 : Nat → FieldType := fun k => match k with
  | 0 => .array .int
  | 1 => .array .int
  | 2 => .array .int
  | 3 => .array .int
  | 4 => .array .int
  | 5 => .int
  | 6 => .int
  | 7 => .int
  | 8 => .int
  | 9 => .int
  | 10 => .long
  | _ => .long
theorem am_t1_ok : ∀ k, k < 12 → parseFieldDescriptor (am_T1 k).2.2.1 = some (am_t1 k) := by decide +kernel
def am_t2 : Nat → FieldType := fun k => match k with
  | 0 => .array .byte
  | 1 => .int
  | _ => .int
theorem am_t2_ok : ∀ k, k < 3 → parseFieldDescriptor (am_T2 k).2.2.1 = some (am_t2 k) := by decide +kernel
def am_t3 : Nat → FieldType := fun k => match k with
  | 0 => .object "ReadPass$Seen"
  | 1 => .int
  | 2 => .int
  | 3 => .int
  | 4 => .int
  | 5 => .int
  | 6 => .int
  | 7 => .int
  | 8 => .int
  | _ => .long
theorem am_t3_ok : ∀ k, k < 10 → parseFieldDescriptor (am_T3 k).2.2.1 = some (am_t3 k) := by decide +kernel
def am_t4 : Nat → FieldType := fun k => match k with
  | 0 => .array .long
  | 1 => .array .int
  | _ => .int
theorem am_t4_ok : ∀ k, k < 3 → parseFieldDescriptor (am_T4 k).2.2.1 = some (am_t4 k) := by decide +kernel
def am_t5 : Nat → FieldType := fun k => match k with
  | 0 => .array .long
  | 1 => .int
  | _ => .int
theorem am_t5_ok : ∀ k, k < 3 → parseFieldDescriptor (am_T5 k).2.2.1 = some (am_t5 k) := by decide +kernel
theorem am_goodC {w : Cond} (h : w ∈ am_U) : GoodIn am_U (w :: am_U) := am_goodU (fun x hx => by rcases List.mem_cons.mp hx with z | z; exact z ▸ h; exact z)
theorem d_RD_init_0 : decode prog_5_method_1_code 0 = .ok (.aload_n 0, 1) := by decide +kernel
theorem d_RD_init_1 : decode prog_5_method_1_code 1 = .ok (.invokespecial 3, 3) := by decide +kernel
theorem d_RD_init_4 : decode prog_5_method_1_code 4 = .ok (.aload_n 0, 1) := by decide +kernel
theorem d_RD_init_5 : decode prog_5_method_1_code 5 = .ok (.bipush 12, 2) := by decide +kernel
theorem d_RD_init_7 : decode prog_5_method_1_code 7 = .ok (.newarray .int, 2) := by decide +kernel
theorem d_RD_init_9 : decode prog_5_method_1_code 9 = .ok (.putfield 9, 3) := by decide +kernel
theorem d_RD_init_12 : decode prog_5_method_1_code 12 = .ok (.aload_n 0, 1) := by decide +kernel
theorem d_RD_init_13 : decode prog_5_method_1_code 13 = .ok (.bipush 12, 2) := by decide +kernel
theorem d_RD_init_15 : decode prog_5_method_1_code 15 = .ok (.newarray .int, 2) := by decide +kernel
theorem d_RD_init_17 : decode prog_5_method_1_code 17 = .ok (.putfield 15, 3) := by decide +kernel
theorem d_RD_init_20 : decode prog_5_method_1_code 20 = .ok (.aload_n 0, 1) := by decide +kernel
theorem d_RD_init_21 : decode prog_5_method_1_code 21 = .ok (.bipush 64, 2) := by decide +kernel
theorem d_RD_init_23 : decode prog_5_method_1_code 23 = .ok (.newarray .int, 2) := by decide +kernel
theorem d_RD_init_25 : decode prog_5_method_1_code 25 = .ok (.putfield 18, 3) := by decide +kernel
theorem d_RD_init_28 : decode prog_5_method_1_code 28 = .ok (.aload_n 0, 1) := by decide +kernel
theorem d_RD_init_29 : decode prog_5_method_1_code 29 = .ok (.bipush 8, 2) := by decide +kernel
theorem d_RD_init_31 : decode prog_5_method_1_code 31 = .ok (.newarray .int, 2) := by decide +kernel
theorem d_RD_init_33 : decode prog_5_method_1_code 33 = .ok (.putfield 21, 3) := by decide +kernel
theorem d_RD_init_36 : decode prog_5_method_1_code 36 = .ok (.aload_n 0, 1) := by decide +kernel
theorem d_RD_init_37 : decode prog_5_method_1_code 37 = .ok (.bipush 8, 2) := by decide +kernel
theorem d_RD_init_39 : decode prog_5_method_1_code 39 = .ok (.newarray .int, 2) := by decide +kernel
theorem d_RD_init_41 : decode prog_5_method_1_code 41 = .ok (.putfield 24, 3) := by decide +kernel
theorem d_RD_init_44 : decode prog_5_method_1_code 44 = .ok (.aload_n 0, 1) := by decide +kernel
theorem d_RD_init_45 : decode prog_5_method_1_code 45 = .ok (.bipush 7, 2) := by decide +kernel
theorem d_RD_init_47 : decode prog_5_method_1_code 47 = .ok (.putfield 27, 3) := by decide +kernel
theorem d_RD_init_50 : decode prog_5_method_1_code 50 = .ok (.return_, 1) := by decide +kernel
set_option maxRecDepth 100000 in
set_option maxHeartbeats 4000000 in
theorem ini_RD_init {l : Launch} (D : va_G) (ca : Nat → ClassId) (h0 sz : Nat) : Met l ⟨"ReadPass$Road", "<init>", "()V"⟩ (.code ⟨"ReadPass$Road", "<init>", "()V"⟩ prog_5_method_1_code 1 none :: am_U) ({ frames := 1, cells := 5, slots := 104, locals := 12 } : Room) (va_Pc [.ref h0] (am_B0 D ca sz [(h0, .inr (1, [.null, .null, .null, .null, .null, .int 0, .int 0, .int 0, .int 0, .int 0, .long 0, .long 0]))])) (va_Qv (fun _ : Nat → Nat => True) (fun u t => va_P D am_cl [(h0, .inr (1, [.ref (u 0), .ref (u 1), .ref (u 2), .ref (u 3), .ref (u 4), .int 0, .int 0, .int 0, .int 0, .int 7, .long 0, .long 0])), ((u 0), .inl (ca 0, 12, .inl (fun _ => 0))), ((u 1), .inl (ca 0, 12, .inl (fun _ => 0))), ((u 2), .inl (ca 0, 64, .inl (fun _ => 0))), ((u 3), .inl (ca 0, 8, .inl (fun _ => 0))), ((u 4), .inl (ca 0, 8, .inl (fun _ => 0)))] t.heap ∧ va_D (va_A [(h0, .inr (1, [.null, .null, .null, .null, .null, .int 0, .int 0, .int 0, .int 0, .int 0, .long 0, .long 0]))] sz) [(h0, .inr (1, [.ref (u 0), .ref (u 1), .ref (u 2), .ref (u 3), .ref (u 4), .int 0, .int 0, .int 0, .int 0, .int 7, .long 0, .long 0])), ((u 0), .inl (ca 0, 12, .inl (fun _ => 0))), ((u 1), .inl (ca 0, 12, .inl (fun _ => 0))), ((u 2), .inl (ca 0, 64, .inl (fun _ => 0))), ((u 3), .inl (ca 0, 8, .inl (fun _ => 0))), ((u 4), .inl (ca 0, 8, .inl (fun _ => 0)))]) (va_A [(h0, .inr (1, [.null, .null, .null, .null, .null, .int 0, .int 0, .int 0, .int 0, .int 0, .long 0, .long 0]))] sz)) 5 104 (va_A [(h0, .inr (1, [.null, .null, .null, .null, .null, .int 0, .int 0, .int 0, .int 0, .int 0, .long 0, .long 0]))] sz) := by
  refine Met.ofW (cc := prog_5_method_1_code) (maxL := 1) (ret := none) (by decide) rfl ?_
  intro p e s m args below meth c s₁ B hml hv
  obtain ⟨rfl, hsz, hP, hK, hD0, hN, hO⟩ := hv
  have hx := B.exec
  have hb := B.bytes
  have hr := B.returns
  have hts := atoms_spec (ws := Cond.code ⟨"ReadPass$Road", "<init>", "()V"⟩ prog_5_method_1_code 1 none :: am_U) B.pre
  have hU : ∀ w ∈ am_U, w.before ([Value.ref h0] : List Value).toArray s = true := fun w hw => hts w (List.mem_cons_of_mem _ hw)
  have hown : s.vm.findClass "ReadPass$Road" = some m.cls := findClass_of_methodNamed B.named
  have hlocks := B.notSynchronized
  have hin : meth.name = "<init>" := (name_of_methodNamed B.named B.method).1
  subst hsz
  have hD := hD0.self (sz := s.heap.size)
  generalize hAe : va_A [(h0, .inr (1, [.null, .null, .null, .null, .null, .int 0, .int 0, .int 0, .int 0, .int 0, .long 0, .long 0]))] s.heap.size = A at hD ⊢
  have hA : ∀ q : Nat, s.heap.size ≤ q → A q := fun q h => by rw [← hAe]; exact Or.inr h
  have hS : va_S A s.heap s.heap [] := va_S.rf
  have hP : va_P D am_cl [(h0, .inr (1, [.null, .null, .null, .null, .null, .int 0, .int 0, .int 0, .int 0, .int 0, .long 0, .long 0]))] s.heap := hP
  have hl := lv_entry ([.ref h0]) (n := 1) (Nat.le_of_ble_eq_true rfl)
  rw [lg_entry_eq]
  generalize (lg_sl ([.ref h0]) ++ List.replicate (1 - (lg_sl ([.ref h0])).length) Slot.unset).toArray = ls at hl ⊢
  have hl : lv_has ls 1 [(0, .ref h0)] := hl
  refine lv_aload_n hx hb d_RD_init_0 rfl (lv_at hl 0 rfl) ?_
  refine W.objInit hx hb hown (hU _ (am_pos 38 (by decide +kernel) rfl)) (hU _ (am_pos 31 (by decide +kernel) rfl)) (hU _ (am_pos (w := .code Lib.objectInit ⟨#[0xb1]⟩ 1 none) 32 (by decide +kernel) rfl)) rfl (by rw [hml]; exact hl.1) rfl d_RD_init_1 (Nat.le_of_ble_eq_true rfl) (Nat.le_of_ble_eq_true rfl) ?_
  refine W.eq (g2 := F0 m 4 ls []) rfl ?_
  refine lv_aload_n hx hb d_RD_init_4 rfl (lv_at hl 0 rfl) ?_
  refine lv_bipush (v := 12) hx hb d_RD_init_5 (by decide) ?_
  refine am_newa (atype := .int) (ty := .int) (ca := ca) (a0 := (12, .inl (fun _ => 0))) (N' := 12) hx hb (hU _ (am_pos 84 (by decide +kernel) rfl)) rfl 0 rfl (by intro C h; cases h) hK hP hD hS hA (fun _ => rfl) (by decide) (by decide) (Nat.le_of_ble_eq_true rfl) (Nat.le_of_ble_eq_true rfl) (Nat.le_of_ble_eq_true rfl) d_RD_init_7 (fun q7 H hP hD hS => ?_)
  have hP : va_P D am_cl [(h0, .inr (1, [.null, .null, .null, .null, .null, .int 0, .int 0, .int 0, .int 0, .int 0, .long 0, .long 0])), (q7, .inl (ca 0, 12, .inl (fun _ => 0)))] H := hP
  have hD : va_D A [(h0, .inr (1, [.null, .null, .null, .null, .null, .int 0, .int 0, .int 0, .int 0, .int 0, .long 0, .long 0])), (q7, .inl (ca 0, 12, .inl (fun _ => 0)))] := hD
  refine W.widen (k := 1) (n := 12) (Nat.le_of_ble_eq_true rfl) (Nat.le_of_ble_eq_true rfl) ?_
  refine va_putF (D := D) (ci := 1) (v := .ref q7) (ty := .array .int) (C := "ReadPass$Road") (T := am_T1) (N := 12) hx hb hU (am_clU (ci := 1) rfl) am_t1 am_t1_ok (am_cls (ci := 1) rfl).2.1 hown hK hP hD hS 0 rfl rfl 0 (by decide) (hU _ (am_pos 39 (by decide +kernel) rfl)) (fun _ h9 => h9) rfl hin rfl (by decide +kernel) rfl rfl (Nat.le_of_ble_eq_true rfl) d_RD_init_9 (fun H locs hP hD hS => ?_)
  have hP : va_P D am_cl [(h0, .inr (1, [.ref q7, .null, .null, .null, .null, .int 0, .int 0, .int 0, .int 0, .int 0, .long 0, .long 0])), (q7, .inl (ca 0, 12, .inl (fun _ => 0)))] H := hP
  have hD : va_D A [(h0, .inr (1, [.ref q7, .null, .null, .null, .null, .int 0, .int 0, .int 0, .int 0, .int 0, .long 0, .long 0])), (q7, .inl (ca 0, 12, .inl (fun _ => 0)))] := hD
  refine lv_aload_n hx hb d_RD_init_12 rfl (lv_at hl 0 rfl) ?_
  refine lv_bipush (v := 12) hx hb d_RD_init_13 (by decide) ?_
  refine am_newa (atype := .int) (ty := .int) (ca := ca) (a0 := (12, .inl (fun _ => 0))) (N' := 12) hx hb (hU _ (am_pos 84 (by decide +kernel) rfl)) rfl 0 rfl (by intro C h; cases h) hK hP hD hS hA (fun _ => rfl) (by decide) (by decide) (Nat.le_of_ble_eq_true rfl) (Nat.le_of_ble_eq_true rfl) (Nat.le_of_ble_eq_true rfl) d_RD_init_15 (fun q15 H hP hD hS => ?_)
  have hP : va_P D am_cl [(h0, .inr (1, [.ref q7, .null, .null, .null, .null, .int 0, .int 0, .int 0, .int 0, .int 0, .long 0, .long 0])), (q7, .inl (ca 0, 12, .inl (fun _ => 0))), (q15, .inl (ca 0, 12, .inl (fun _ => 0)))] H := hP
  have hD : va_D A [(h0, .inr (1, [.ref q7, .null, .null, .null, .null, .int 0, .int 0, .int 0, .int 0, .int 0, .long 0, .long 0])), (q7, .inl (ca 0, 12, .inl (fun _ => 0))), (q15, .inl (ca 0, 12, .inl (fun _ => 0)))] := hD
  refine W.widen (k := 2) (n := 24) (Nat.le_of_ble_eq_true rfl) (Nat.le_of_ble_eq_true rfl) ?_
  refine va_putF (D := D) (ci := 1) (v := .ref q15) (ty := .array .int) (C := "ReadPass$Road") (T := am_T1) (N := 12) hx hb hU (am_clU (ci := 1) rfl) am_t1 am_t1_ok (am_cls (ci := 1) rfl).2.1 hown hK hP hD hS 0 rfl rfl 1 (by decide) (hU _ (am_pos 40 (by decide +kernel) rfl)) (fun _ h9 => h9) rfl hin rfl (by decide +kernel) rfl rfl (Nat.le_of_ble_eq_true rfl) d_RD_init_17 (fun H locs hP hD hS => ?_)
  have hP : va_P D am_cl [(h0, .inr (1, [.ref q7, .ref q15, .null, .null, .null, .int 0, .int 0, .int 0, .int 0, .int 0, .long 0, .long 0])), (q7, .inl (ca 0, 12, .inl (fun _ => 0))), (q15, .inl (ca 0, 12, .inl (fun _ => 0)))] H := hP
  have hD : va_D A [(h0, .inr (1, [.ref q7, .ref q15, .null, .null, .null, .int 0, .int 0, .int 0, .int 0, .int 0, .long 0, .long 0])), (q7, .inl (ca 0, 12, .inl (fun _ => 0))), (q15, .inl (ca 0, 12, .inl (fun _ => 0)))] := hD
  refine lv_aload_n hx hb d_RD_init_20 rfl (lv_at hl 0 rfl) ?_
  refine lv_bipush (v := 64) hx hb d_RD_init_21 (by decide) ?_
  refine am_newa (atype := .int) (ty := .int) (ca := ca) (a0 := (64, .inl (fun _ => 0))) (N' := 64) hx hb (hU _ (am_pos 84 (by decide +kernel) rfl)) rfl 0 rfl (by intro C h; cases h) hK hP hD hS hA (fun _ => rfl) (by decide) (by decide) (Nat.le_of_ble_eq_true rfl) (Nat.le_of_ble_eq_true rfl) (Nat.le_of_ble_eq_true rfl) d_RD_init_23 (fun q23 H hP hD hS => ?_)
  have hP : va_P D am_cl [(h0, .inr (1, [.ref q7, .ref q15, .null, .null, .null, .int 0, .int 0, .int 0, .int 0, .int 0, .long 0, .long 0])), (q7, .inl (ca 0, 12, .inl (fun _ => 0))), (q15, .inl (ca 0, 12, .inl (fun _ => 0))), (q23, .inl (ca 0, 64, .inl (fun _ => 0)))] H := hP
  have hD : va_D A [(h0, .inr (1, [.ref q7, .ref q15, .null, .null, .null, .int 0, .int 0, .int 0, .int 0, .int 0, .long 0, .long 0])), (q7, .inl (ca 0, 12, .inl (fun _ => 0))), (q15, .inl (ca 0, 12, .inl (fun _ => 0))), (q23, .inl (ca 0, 64, .inl (fun _ => 0)))] := hD
  refine W.widen (k := 3) (n := 88) (Nat.le_of_ble_eq_true rfl) (Nat.le_of_ble_eq_true rfl) ?_
  refine va_putF (D := D) (ci := 1) (v := .ref q23) (ty := .array .int) (C := "ReadPass$Road") (T := am_T1) (N := 12) hx hb hU (am_clU (ci := 1) rfl) am_t1 am_t1_ok (am_cls (ci := 1) rfl).2.1 hown hK hP hD hS 0 rfl rfl 2 (by decide) (hU _ (am_pos 41 (by decide +kernel) rfl)) (fun _ h9 => h9) rfl hin rfl (by decide +kernel) rfl rfl (Nat.le_of_ble_eq_true rfl) d_RD_init_25 (fun H locs hP hD hS => ?_)
  have hP : va_P D am_cl [(h0, .inr (1, [.ref q7, .ref q15, .ref q23, .null, .null, .int 0, .int 0, .int 0, .int 0, .int 0, .long 0, .long 0])), (q7, .inl (ca 0, 12, .inl (fun _ => 0))), (q15, .inl (ca 0, 12, .inl (fun _ => 0))), (q23, .inl (ca 0, 64, .inl (fun _ => 0)))] H := hP
  have hD : va_D A [(h0, .inr (1, [.ref q7, .ref q15, .ref q23, .null, .null, .int 0, .int 0, .int 0, .int 0, .int 0, .long 0, .long 0])), (q7, .inl (ca 0, 12, .inl (fun _ => 0))), (q15, .inl (ca 0, 12, .inl (fun _ => 0))), (q23, .inl (ca 0, 64, .inl (fun _ => 0)))] := hD
  refine lv_aload_n hx hb d_RD_init_28 rfl (lv_at hl 0 rfl) ?_
  refine lv_bipush (v := 8) hx hb d_RD_init_29 (by decide) ?_
  refine am_newa (atype := .int) (ty := .int) (ca := ca) (a0 := (8, .inl (fun _ => 0))) (N' := 8) hx hb (hU _ (am_pos 84 (by decide +kernel) rfl)) rfl 0 rfl (by intro C h; cases h) hK hP hD hS hA (fun _ => rfl) (by decide) (by decide) (Nat.le_of_ble_eq_true rfl) (Nat.le_of_ble_eq_true rfl) (Nat.le_of_ble_eq_true rfl) d_RD_init_31 (fun q31 H hP hD hS => ?_)
  have hP : va_P D am_cl [(h0, .inr (1, [.ref q7, .ref q15, .ref q23, .null, .null, .int 0, .int 0, .int 0, .int 0, .int 0, .long 0, .long 0])), (q7, .inl (ca 0, 12, .inl (fun _ => 0))), (q15, .inl (ca 0, 12, .inl (fun _ => 0))), (q23, .inl (ca 0, 64, .inl (fun _ => 0))), (q31, .inl (ca 0, 8, .inl (fun _ => 0)))] H := hP
  have hD : va_D A [(h0, .inr (1, [.ref q7, .ref q15, .ref q23, .null, .null, .int 0, .int 0, .int 0, .int 0, .int 0, .long 0, .long 0])), (q7, .inl (ca 0, 12, .inl (fun _ => 0))), (q15, .inl (ca 0, 12, .inl (fun _ => 0))), (q23, .inl (ca 0, 64, .inl (fun _ => 0))), (q31, .inl (ca 0, 8, .inl (fun _ => 0)))] := hD
  refine W.widen (k := 4) (n := 96) (Nat.le_of_ble_eq_true rfl) (Nat.le_of_ble_eq_true rfl) ?_
  refine va_putF (D := D) (ci := 1) (v := .ref q31) (ty := .array .int) (C := "ReadPass$Road") (T := am_T1) (N := 12) hx hb hU (am_clU (ci := 1) rfl) am_t1 am_t1_ok (am_cls (ci := 1) rfl).2.1 hown hK hP hD hS 0 rfl rfl 3 (by decide) (hU _ (am_pos 42 (by decide +kernel) rfl)) (fun _ h9 => h9) rfl hin rfl (by decide +kernel) rfl rfl (Nat.le_of_ble_eq_true rfl) d_RD_init_33 (fun H locs hP hD hS => ?_)
  have hP : va_P D am_cl [(h0, .inr (1, [.ref q7, .ref q15, .ref q23, .ref q31, .null, .int 0, .int 0, .int 0, .int 0, .int 0, .long 0, .long 0])), (q7, .inl (ca 0, 12, .inl (fun _ => 0))), (q15, .inl (ca 0, 12, .inl (fun _ => 0))), (q23, .inl (ca 0, 64, .inl (fun _ => 0))), (q31, .inl (ca 0, 8, .inl (fun _ => 0)))] H := hP
  have hD : va_D A [(h0, .inr (1, [.ref q7, .ref q15, .ref q23, .ref q31, .null, .int 0, .int 0, .int 0, .int 0, .int 0, .long 0, .long 0])), (q7, .inl (ca 0, 12, .inl (fun _ => 0))), (q15, .inl (ca 0, 12, .inl (fun _ => 0))), (q23, .inl (ca 0, 64, .inl (fun _ => 0))), (q31, .inl (ca 0, 8, .inl (fun _ => 0)))] := hD
  refine lv_aload_n hx hb d_RD_init_36 rfl (lv_at hl 0 rfl) ?_
  refine lv_bipush (v := 8) hx hb d_RD_init_37 (by decide) ?_
  refine am_newa (atype := .int) (ty := .int) (ca := ca) (a0 := (8, .inl (fun _ => 0))) (N' := 8) hx hb (hU _ (am_pos 84 (by decide +kernel) rfl)) rfl 0 rfl (by intro C h; cases h) hK hP hD hS hA (fun _ => rfl) (by decide) (by decide) (Nat.le_of_ble_eq_true rfl) (Nat.le_of_ble_eq_true rfl) (Nat.le_of_ble_eq_true rfl) d_RD_init_39 (fun q39 H hP hD hS => ?_)
  have hP : va_P D am_cl [(h0, .inr (1, [.ref q7, .ref q15, .ref q23, .ref q31, .null, .int 0, .int 0, .int 0, .int 0, .int 0, .long 0, .long 0])), (q7, .inl (ca 0, 12, .inl (fun _ => 0))), (q15, .inl (ca 0, 12, .inl (fun _ => 0))), (q23, .inl (ca 0, 64, .inl (fun _ => 0))), (q31, .inl (ca 0, 8, .inl (fun _ => 0))), (q39, .inl (ca 0, 8, .inl (fun _ => 0)))] H := hP
  have hD : va_D A [(h0, .inr (1, [.ref q7, .ref q15, .ref q23, .ref q31, .null, .int 0, .int 0, .int 0, .int 0, .int 0, .long 0, .long 0])), (q7, .inl (ca 0, 12, .inl (fun _ => 0))), (q15, .inl (ca 0, 12, .inl (fun _ => 0))), (q23, .inl (ca 0, 64, .inl (fun _ => 0))), (q31, .inl (ca 0, 8, .inl (fun _ => 0))), (q39, .inl (ca 0, 8, .inl (fun _ => 0)))] := hD
  refine W.widen (k := 5) (n := 104) (Nat.le_of_ble_eq_true rfl) (Nat.le_of_ble_eq_true rfl) ?_
  refine va_putF (D := D) (ci := 1) (v := .ref q39) (ty := .array .int) (C := "ReadPass$Road") (T := am_T1) (N := 12) hx hb hU (am_clU (ci := 1) rfl) am_t1 am_t1_ok (am_cls (ci := 1) rfl).2.1 hown hK hP hD hS 0 rfl rfl 4 (by decide) (hU _ (am_pos 43 (by decide +kernel) rfl)) (fun _ h9 => h9) rfl hin rfl (by decide +kernel) rfl rfl (Nat.le_of_ble_eq_true rfl) d_RD_init_41 (fun H locs hP hD hS => ?_)
  have hP : va_P D am_cl [(h0, .inr (1, [.ref q7, .ref q15, .ref q23, .ref q31, .ref q39, .int 0, .int 0, .int 0, .int 0, .int 0, .long 0, .long 0])), (q7, .inl (ca 0, 12, .inl (fun _ => 0))), (q15, .inl (ca 0, 12, .inl (fun _ => 0))), (q23, .inl (ca 0, 64, .inl (fun _ => 0))), (q31, .inl (ca 0, 8, .inl (fun _ => 0))), (q39, .inl (ca 0, 8, .inl (fun _ => 0)))] H := hP
  have hD : va_D A [(h0, .inr (1, [.ref q7, .ref q15, .ref q23, .ref q31, .ref q39, .int 0, .int 0, .int 0, .int 0, .int 0, .long 0, .long 0])), (q7, .inl (ca 0, 12, .inl (fun _ => 0))), (q15, .inl (ca 0, 12, .inl (fun _ => 0))), (q23, .inl (ca 0, 64, .inl (fun _ => 0))), (q31, .inl (ca 0, 8, .inl (fun _ => 0))), (q39, .inl (ca 0, 8, .inl (fun _ => 0)))] := hD
  refine lv_aload_n hx hb d_RD_init_44 rfl (lv_at hl 0 rfl) ?_
  refine lv_bipush (v := 7) hx hb d_RD_init_45 (by decide) ?_
  refine va_put (D := D) (ci := 1) (v := .int 7) (ty := .int) (C := "ReadPass$Road") (T := am_T1) (N := 12) hx hb hU (am_clU (ci := 1) rfl) am_t1 am_t1_ok (am_cls (ci := 1) rfl).2.1 hown hK hP hD hS 0 rfl rfl 9 (by decide) (hU _ (am_pos 52 (by decide +kernel) rfl)) (fun _ h9 => h9) rfl (by decide +kernel) rfl rfl (Nat.le_of_ble_eq_true rfl) d_RD_init_47 (fun H locs hP hD hS => ?_)
  have hP : va_P D am_cl [(h0, .inr (1, [.ref q7, .ref q15, .ref q23, .ref q31, .ref q39, .int 0, .int 0, .int 0, .int 0, .int 7, .long 0, .long 0])), (q7, .inl (ca 0, 12, .inl (fun _ => 0))), (q15, .inl (ca 0, 12, .inl (fun _ => 0))), (q23, .inl (ca 0, 64, .inl (fun _ => 0))), (q31, .inl (ca 0, 8, .inl (fun _ => 0))), (q39, .inl (ca 0, 8, .inl (fun _ => 0)))] H := hP
  have hD : va_D A [(h0, .inr (1, [.ref q7, .ref q15, .ref q23, .ref q31, .ref q39, .int 0, .int 0, .int 0, .int 0, .int 7, .long 0, .long 0])), (q7, .inl (ca 0, 12, .inl (fun _ => 0))), (q15, .inl (ca 0, 12, .inl (fun _ => 0))), (q23, .inl (ca 0, 64, .inl (fun _ => 0))), (q31, .inl (ca 0, 8, .inl (fun _ => 0))), (q39, .inl (ca 0, 8, .inl (fun _ => 0)))] := hD
  exact W.vret hx hb hr (fun t ht hW => ⟨⟨fun k => [q7, q15, q23, q31, q39].getD k 0, rfl, trivial, by rw [ht]; exact hP, hD⟩, hS.F ht⟩) hS.2.2 d_RD_init_50
theorem d_TP_init_0 : decode prog_8_method_1_code 0 = .ok (.aload_n 0, 1) := by decide +kernel
theorem d_TP_init_1 : decode prog_8_method_1_code 1 = .ok (.invokespecial 3, 3) := by decide +kernel
theorem d_TP_init_4 : decode prog_8_method_1_code 4 = .ok (.aload_n 0, 1) := by decide +kernel
theorem d_TP_init_5 : decode prog_8_method_1_code 5 = .ok (.bipush 100, 2) := by decide +kernel
theorem d_TP_init_7 : decode prog_8_method_1_code 7 = .ok (.newarray .byte, 2) := by decide +kernel
theorem d_TP_init_9 : decode prog_8_method_1_code 9 = .ok (.putfield 11, 3) := by decide +kernel
theorem d_TP_init_12 : decode prog_8_method_1_code 12 = .ok (.return_, 1) := by decide +kernel
set_option maxRecDepth 100000 in
set_option maxHeartbeats 4000000 in
theorem ini_TP_init {l : Launch} (D : va_G) (ca : Nat → ClassId) (h0 sz : Nat) : Met l ⟨"ReadPass$Tape", "<init>", "()V"⟩ (.code ⟨"ReadPass$Tape", "<init>", "()V"⟩ prog_8_method_1_code 1 none :: am_U) ({ frames := 1, cells := 1, slots := 100, locals := 12 } : Room) (va_Pc [.ref h0] (am_B0 D ca sz [(h0, .inr (2, [.null, .int 0, .int 0]))])) (va_Qv (fun _ : Nat → Nat => True) (fun u t => va_P D am_cl [(h0, .inr (2, [.ref (u 0), .int 0, .int 0])), ((u 0), .inl (ca 2, 100, .inl (fun _ => 0)))] t.heap ∧ va_D (va_A [(h0, .inr (2, [.null, .int 0, .int 0]))] sz) [(h0, .inr (2, [.ref (u 0), .int 0, .int 0])), ((u 0), .inl (ca 2, 100, .inl (fun _ => 0)))]) (va_A [(h0, .inr (2, [.null, .int 0, .int 0]))] sz)) 1 100 (va_A [(h0, .inr (2, [.null, .int 0, .int 0]))] sz) := by
  refine Met.ofW (cc := prog_8_method_1_code) (maxL := 1) (ret := none) (by decide) rfl ?_
  intro p e s m args below meth c s₁ B hml hv
  obtain ⟨rfl, hsz, hP, hK, hD0, hN, hO⟩ := hv
  have hx := B.exec
  have hb := B.bytes
  have hr := B.returns
  have hts := atoms_spec (ws := Cond.code ⟨"ReadPass$Tape", "<init>", "()V"⟩ prog_8_method_1_code 1 none :: am_U) B.pre
  have hU : ∀ w ∈ am_U, w.before ([Value.ref h0] : List Value).toArray s = true := fun w hw => hts w (List.mem_cons_of_mem _ hw)
  have hown : s.vm.findClass "ReadPass$Tape" = some m.cls := findClass_of_methodNamed B.named
  have hlocks := B.notSynchronized
  have hin : meth.name = "<init>" := (name_of_methodNamed B.named B.method).1
  subst hsz
  have hD := hD0.self (sz := s.heap.size)
  generalize hAe : va_A [(h0, .inr (2, [.null, .int 0, .int 0]))] s.heap.size = A at hD ⊢
  have hA : ∀ q : Nat, s.heap.size ≤ q → A q := fun q h => by rw [← hAe]; exact Or.inr h
  have hS : va_S A s.heap s.heap [] := va_S.rf
  have hP : va_P D am_cl [(h0, .inr (2, [.null, .int 0, .int 0]))] s.heap := hP
  have hl := lv_entry ([.ref h0]) (n := 1) (Nat.le_of_ble_eq_true rfl)
  rw [lg_entry_eq]
  generalize (lg_sl ([.ref h0]) ++ List.replicate (1 - (lg_sl ([.ref h0])).length) Slot.unset).toArray = ls at hl ⊢
  have hl : lv_has ls 1 [(0, .ref h0)] := hl
  refine lv_aload_n hx hb d_TP_init_0 rfl (lv_at hl 0 rfl) ?_
  refine W.objInit hx hb hown (hU _ (am_pos 90 (by decide +kernel) rfl)) (hU _ (am_pos 31 (by decide +kernel) rfl)) (hU _ (am_pos (w := .code Lib.objectInit ⟨#[0xb1]⟩ 1 none) 32 (by decide +kernel) rfl)) rfl (by rw [hml]; exact hl.1) rfl d_TP_init_1 (Nat.le_of_ble_eq_true rfl) (Nat.le_of_ble_eq_true rfl) ?_
  refine W.eq (g2 := F0 m 4 ls []) rfl ?_
  refine lv_aload_n hx hb d_TP_init_4 rfl (lv_at hl 0 rfl) ?_
  refine lv_bipush (v := 100) hx hb d_TP_init_5 (by decide) ?_
  refine am_newa (atype := .byte) (ty := .byte) (ca := ca) (a0 := (100, .inl (fun _ => 0))) (N' := 100) hx hb (hU _ (am_pos 102 (by decide +kernel) rfl)) rfl 2 rfl (by intro C h; cases h) hK hP hD hS hA (fun _ => rfl) (by decide) (by decide) (Nat.le_of_ble_eq_true rfl) (Nat.le_of_ble_eq_true rfl) (Nat.le_of_ble_eq_true rfl) d_TP_init_7 (fun q7 H hP hD hS => ?_)
  have hP : va_P D am_cl [(h0, .inr (2, [.null, .int 0, .int 0])), (q7, .inl (ca 2, 100, .inl (fun _ => 0)))] H := hP
  have hD : va_D A [(h0, .inr (2, [.null, .int 0, .int 0])), (q7, .inl (ca 2, 100, .inl (fun _ => 0)))] := hD
  refine W.widen (k := 1) (n := 100) (Nat.le_of_ble_eq_true rfl) (Nat.le_of_ble_eq_true rfl) ?_
  refine va_putF (D := D) (ci := 2) (v := .ref q7) (ty := .array .byte) (C := "ReadPass$Tape") (T := am_T2) (N := 3) hx hb hU (am_clU (ci := 2) rfl) am_t2 am_t2_ok (am_cls (ci := 2) rfl).2.1 hown hK hP hD hS 0 rfl rfl 0 (by decide) (hU _ (am_pos 91 (by decide +kernel) rfl)) (fun _ h9 => h9) rfl hin rfl (by decide +kernel) rfl rfl (Nat.le_of_ble_eq_true rfl) d_TP_init_9 (fun H locs hP hD hS => ?_)
  have hP : va_P D am_cl [(h0, .inr (2, [.ref q7, .int 0, .int 0])), (q7, .inl (ca 2, 100, .inl (fun _ => 0)))] H := hP
  have hD : va_D A [(h0, .inr (2, [.ref q7, .int 0, .int 0])), (q7, .inl (ca 2, 100, .inl (fun _ => 0)))] := hD
  exact W.vret hx hb hr (fun t ht hW => ⟨⟨fun k => [q7].getD k 0, rfl, trivial, by rw [ht]; exact hP, hD⟩, hS.F ht⟩) hS.2.2 d_TP_init_12
theorem d_SN_init_0 : decode prog_6_method_1_code 0 = .ok (.aload_n 0, 1) := by decide +kernel
theorem d_SN_init_1 : decode prog_6_method_1_code 1 = .ok (.invokespecial 3, 3) := by decide +kernel
theorem d_SN_init_4 : decode prog_6_method_1_code 4 = .ok (.aload_n 0, 1) := by decide +kernel
theorem d_SN_init_5 : decode prog_6_method_1_code 5 = .ok (.sipush 512, 3) := by decide +kernel
theorem d_SN_init_8 : decode prog_6_method_1_code 8 = .ok (.newarray .long, 2) := by decide +kernel
theorem d_SN_init_10 : decode prog_6_method_1_code 10 = .ok (.putfield 11, 3) := by decide +kernel
theorem d_SN_init_13 : decode prog_6_method_1_code 13 = .ok (.aload_n 0, 1) := by decide +kernel
theorem d_SN_init_14 : decode prog_6_method_1_code 14 = .ok (.sipush 512, 3) := by decide +kernel
theorem d_SN_init_17 : decode prog_6_method_1_code 17 = .ok (.newarray .int, 2) := by decide +kernel
theorem d_SN_init_19 : decode prog_6_method_1_code 19 = .ok (.putfield 15, 3) := by decide +kernel
theorem d_SN_init_22 : decode prog_6_method_1_code 22 = .ok (.return_, 1) := by decide +kernel
set_option maxRecDepth 100000 in
set_option maxHeartbeats 4000000 in
theorem ini_SN_init {l : Launch} (D : va_G) (ca : Nat → ClassId) (h0 sz : Nat) : Met l ⟨"ReadPass$Seen", "<init>", "()V"⟩ (.code ⟨"ReadPass$Seen", "<init>", "()V"⟩ prog_6_method_1_code 1 none :: am_U) ({ frames := 1, cells := 2, slots := 1024, locals := 12 } : Room) (va_Pc [.ref h0] (am_B0 D ca sz [(h0, .inr (4, [.null, .null, .int 0]))])) (va_Qv (fun _ : Nat → Nat => True) (fun u t => va_P D am_cl [(h0, .inr (4, [.ref (u 0), .ref (u 1), .int 0])), ((u 0), .inl (ca 1, 512, .inr (.inl (fun _ => 0)))), ((u 1), .inl (ca 0, 512, .inl (fun _ => 0)))] t.heap ∧ va_D (va_A [(h0, .inr (4, [.null, .null, .int 0]))] sz) [(h0, .inr (4, [.ref (u 0), .ref (u 1), .int 0])), ((u 0), .inl (ca 1, 512, .inr (.inl (fun _ => 0)))), ((u 1), .inl (ca 0, 512, .inl (fun _ => 0)))]) (va_A [(h0, .inr (4, [.null, .null, .int 0]))] sz)) 2 1024 (va_A [(h0, .inr (4, [.null, .null, .int 0]))] sz) := by
  refine Met.ofW (cc := prog_6_method_1_code) (maxL := 1) (ret := none) (by decide) rfl ?_
  intro p e s m args below meth c s₁ B hml hv
  obtain ⟨rfl, hsz, hP, hK, hD0, hN, hO⟩ := hv
  have hx := B.exec
  have hb := B.bytes
  have hr := B.returns
  have hts := atoms_spec (ws := Cond.code ⟨"ReadPass$Seen", "<init>", "()V"⟩ prog_6_method_1_code 1 none :: am_U) B.pre
  have hU : ∀ w ∈ am_U, w.before ([Value.ref h0] : List Value).toArray s = true := fun w hw => hts w (List.mem_cons_of_mem _ hw)
  have hown : s.vm.findClass "ReadPass$Seen" = some m.cls := findClass_of_methodNamed B.named
  have hlocks := B.notSynchronized
  have hin : meth.name = "<init>" := (name_of_methodNamed B.named B.method).1
  subst hsz
  have hD := hD0.self (sz := s.heap.size)
  generalize hAe : va_A [(h0, .inr (4, [.null, .null, .int 0]))] s.heap.size = A at hD ⊢
  have hA : ∀ q : Nat, s.heap.size ≤ q → A q := fun q h => by rw [← hAe]; exact Or.inr h
  have hS : va_S A s.heap s.heap [] := va_S.rf
  have hP : va_P D am_cl [(h0, .inr (4, [.null, .null, .int 0]))] s.heap := hP
  have hl := lv_entry ([.ref h0]) (n := 1) (Nat.le_of_ble_eq_true rfl)
  rw [lg_entry_eq]
  generalize (lg_sl ([.ref h0]) ++ List.replicate (1 - (lg_sl ([.ref h0])).length) Slot.unset).toArray = ls at hl ⊢
  have hl : lv_has ls 1 [(0, .ref h0)] := hl
  refine lv_aload_n hx hb d_SN_init_0 rfl (lv_at hl 0 rfl) ?_
  refine W.objInit hx hb hown (hU _ (am_pos 114 (by decide +kernel) rfl)) (hU _ (am_pos 31 (by decide +kernel) rfl)) (hU _ (am_pos (w := .code Lib.objectInit ⟨#[0xb1]⟩ 1 none) 32 (by decide +kernel) rfl)) rfl (by rw [hml]; exact hl.1) rfl d_SN_init_1 (Nat.le_of_ble_eq_true rfl) (Nat.le_of_ble_eq_true rfl) ?_
  refine W.eq (g2 := F0 m 4 ls []) rfl ?_
  refine lv_aload_n hx hb d_SN_init_4 rfl (lv_at hl 0 rfl) ?_
  refine lv_sipush (v := 512) hx hb d_SN_init_5 (by decide) ?_
  refine am_newa (atype := .long) (ty := .long) (ca := ca) (a0 := (512, .inr (.inl (fun _ => 0)))) (N' := 512) hx hb (hU _ (am_pos 125 (by decide +kernel) rfl)) rfl 1 rfl (by intro C h; cases h) hK hP hD hS hA (fun _ => rfl) (by decide) (by decide) (Nat.le_of_ble_eq_true rfl) (Nat.le_of_ble_eq_true rfl) (Nat.le_of_ble_eq_true rfl) d_SN_init_8 (fun q8 H hP hD hS => ?_)
  have hP : va_P D am_cl [(h0, .inr (4, [.null, .null, .int 0])), (q8, .inl (ca 1, 512, .inr (.inl (fun _ => 0))))] H := hP
  have hD : va_D A [(h0, .inr (4, [.null, .null, .int 0])), (q8, .inl (ca 1, 512, .inr (.inl (fun _ => 0))))] := hD
  refine W.widen (k := 1) (n := 512) (Nat.le_of_ble_eq_true rfl) (Nat.le_of_ble_eq_true rfl) ?_
  refine va_putF (D := D) (ci := 4) (v := .ref q8) (ty := .array .long) (C := "ReadPass$Seen") (T := am_T4) (N := 3) hx hb hU (am_clU (ci := 4) rfl) am_t4 am_t4_ok (am_cls (ci := 4) rfl).2.1 hown hK hP hD hS 0 rfl rfl 0 (by decide) (hU _ (am_pos 115 (by decide +kernel) rfl)) (fun _ h9 => h9) rfl hin rfl (by decide +kernel) rfl rfl (Nat.le_of_ble_eq_true rfl) d_SN_init_10 (fun H locs hP hD hS => ?_)
  have hP : va_P D am_cl [(h0, .inr (4, [.ref q8, .null, .int 0])), (q8, .inl (ca 1, 512, .inr (.inl (fun _ => 0))))] H := hP
  have hD : va_D A [(h0, .inr (4, [.ref q8, .null, .int 0])), (q8, .inl (ca 1, 512, .inr (.inl (fun _ => 0))))] := hD
  refine lv_aload_n hx hb d_SN_init_13 rfl (lv_at hl 0 rfl) ?_
  refine lv_sipush (v := 512) hx hb d_SN_init_14 (by decide) ?_
  refine am_newa (atype := .int) (ty := .int) (ca := ca) (a0 := (512, .inl (fun _ => 0))) (N' := 512) hx hb (hU _ (am_pos 84 (by decide +kernel) rfl)) rfl 0 rfl (by intro C h; cases h) hK hP hD hS hA (fun _ => rfl) (by decide) (by decide) (Nat.le_of_ble_eq_true rfl) (Nat.le_of_ble_eq_true rfl) (Nat.le_of_ble_eq_true rfl) d_SN_init_17 (fun q17 H hP hD hS => ?_)
  have hP : va_P D am_cl [(h0, .inr (4, [.ref q8, .null, .int 0])), (q8, .inl (ca 1, 512, .inr (.inl (fun _ => 0)))), (q17, .inl (ca 0, 512, .inl (fun _ => 0)))] H := hP
  have hD : va_D A [(h0, .inr (4, [.ref q8, .null, .int 0])), (q8, .inl (ca 1, 512, .inr (.inl (fun _ => 0)))), (q17, .inl (ca 0, 512, .inl (fun _ => 0)))] := hD
  refine W.widen (k := 2) (n := 1024) (Nat.le_of_ble_eq_true rfl) (Nat.le_of_ble_eq_true rfl) ?_
  refine va_putF (D := D) (ci := 4) (v := .ref q17) (ty := .array .int) (C := "ReadPass$Seen") (T := am_T4) (N := 3) hx hb hU (am_clU (ci := 4) rfl) am_t4 am_t4_ok (am_cls (ci := 4) rfl).2.1 hown hK hP hD hS 0 rfl rfl 1 (by decide) (hU _ (am_pos 116 (by decide +kernel) rfl)) (fun _ h9 => h9) rfl hin rfl (by decide +kernel) rfl rfl (Nat.le_of_ble_eq_true rfl) d_SN_init_19 (fun H locs hP hD hS => ?_)
  have hP : va_P D am_cl [(h0, .inr (4, [.ref q8, .ref q17, .int 0])), (q8, .inl (ca 1, 512, .inr (.inl (fun _ => 0)))), (q17, .inl (ca 0, 512, .inl (fun _ => 0)))] H := hP
  have hD : va_D A [(h0, .inr (4, [.ref q8, .ref q17, .int 0])), (q8, .inl (ca 1, 512, .inr (.inl (fun _ => 0)))), (q17, .inl (ca 0, 512, .inl (fun _ => 0)))] := hD
  exact W.vret hx hb hr (fun t ht hW => ⟨⟨fun k => [q8, q17].getD k 0, rfl, trivial, by rw [ht]; exact hP, hD⟩, hS.F ht⟩) hS.2.2 d_SN_init_22
theorem d_JN_init_0 : decode prog_2_method_1_code 0 = .ok (.aload_n 0, 1) := by decide +kernel
theorem d_JN_init_1 : decode prog_2_method_1_code 1 = .ok (.invokespecial 1, 3) := by decide +kernel
theorem d_JN_init_4 : decode prog_2_method_1_code 4 = .ok (.aload_n 0, 1) := by decide +kernel
theorem d_JN_init_5 : decode prog_2_method_1_code 5 = .ok (.new 7, 3) := by decide +kernel
theorem d_JN_init_8 : decode prog_2_method_1_code 8 = .ok (.dup, 1) := by decide +kernel
theorem d_JN_init_9 : decode prog_2_method_1_code 9 = .ok (.invokespecial 9, 3) := by decide +kernel
theorem d_JN_init_12 : decode prog_2_method_1_code 12 = .ok (.putfield 10, 3) := by decide +kernel
theorem d_JN_init_15 : decode prog_2_method_1_code 15 = .ok (.return_, 1) := by decide +kernel
set_option maxRecDepth 100000 in
set_option maxHeartbeats 4000000 in
theorem ini_JN_init {l : Launch} (D : va_G) (ca : Nat → ClassId) (h0 sz : Nat) : Met l ⟨"ReadPass$Journey", "<init>", "()V"⟩ (.code ⟨"ReadPass$Journey", "<init>", "()V"⟩ prog_2_method_1_code 1 none :: am_U) ({ frames := 2, cells := 3, slots := 1027, locals := 32 } : Room) (va_Pc [.ref h0] (am_B0 D ca sz [(h0, .inr (3, [.null, .int 0, .int 0, .int 0, .int 0, .int 0, .int 0, .int 0, .int 0, .long 0]))])) (va_Qv (fun _ : Nat → Nat => True) (fun u t => va_P D am_cl [(h0, .inr (3, [.ref (u 0), .int 0, .int 0, .int 0, .int 0, .int 0, .int 0, .int 0, .int 0, .long 0])), ((u 0), .inr (4, [.ref (u 1), .ref (u 2), .int 0])), ((u 1), .inl (ca 1, 512, .inr (.inl (fun _ => 0)))), ((u 2), .inl (ca 0, 512, .inl (fun _ => 0)))] t.heap ∧ va_D (va_A [(h0, .inr (3, [.null, .int 0, .int 0, .int 0, .int 0, .int 0, .int 0, .int 0, .int 0, .long 0]))] sz) [(h0, .inr (3, [.ref (u 0), .int 0, .int 0, .int 0, .int 0, .int 0, .int 0, .int 0, .int 0, .long 0])), ((u 0), .inr (4, [.ref (u 1), .ref (u 2), .int 0])), ((u 1), .inl (ca 1, 512, .inr (.inl (fun _ => 0)))), ((u 2), .inl (ca 0, 512, .inl (fun _ => 0)))]) (va_A [(h0, .inr (3, [.null, .int 0, .int 0, .int 0, .int 0, .int 0, .int 0, .int 0, .int 0, .long 0]))] sz)) 3 1027 (va_A [(h0, .inr (3, [.null, .int 0, .int 0, .int 0, .int 0, .int 0, .int 0, .int 0, .int 0, .long 0]))] sz) := by
  refine Met.ofW (cc := prog_2_method_1_code) (maxL := 1) (ret := none) (by decide) rfl ?_
  intro p e s m args below meth c s₁ B hml hv
  obtain ⟨rfl, hsz, hP, hK, hD0, hN, hO⟩ := hv
  have hx := B.exec
  have hb := B.bytes
  have hr := B.returns
  have hts := atoms_spec (ws := Cond.code ⟨"ReadPass$Journey", "<init>", "()V"⟩ prog_2_method_1_code 1 none :: am_U) B.pre
  have hU : ∀ w ∈ am_U, w.before ([Value.ref h0] : List Value).toArray s = true := fun w hw => hts w (List.mem_cons_of_mem _ hw)
  have hown : s.vm.findClass "ReadPass$Journey" = some m.cls := findClass_of_methodNamed B.named
  have hlocks := B.notSynchronized
  have hin : meth.name = "<init>" := (name_of_methodNamed B.named B.method).1
  subst hsz
  have hD := hD0.self (sz := s.heap.size)
  generalize hAe : va_A [(h0, .inr (3, [.null, .int 0, .int 0, .int 0, .int 0, .int 0, .int 0, .int 0, .int 0, .long 0]))] s.heap.size = A at hD ⊢
  have hA : ∀ q : Nat, s.heap.size ≤ q → A q := fun q h => by rw [← hAe]; exact Or.inr h
  have hS : va_S A s.heap s.heap [] := va_S.rf
  have hP : va_P D am_cl [(h0, .inr (3, [.null, .int 0, .int 0, .int 0, .int 0, .int 0, .int 0, .int 0, .int 0, .long 0]))] s.heap := hP
  have hl := lv_entry ([.ref h0]) (n := 1) (Nat.le_of_ble_eq_true rfl)
  rw [lg_entry_eq]
  generalize (lg_sl ([.ref h0]) ++ List.replicate (1 - (lg_sl ([.ref h0])).length) Slot.unset).toArray = ls at hl ⊢
  have hl : lv_has ls 1 [(0, .ref h0)] := hl
  refine lv_aload_n hx hb d_JN_init_0 rfl (lv_at hl 0 rfl) ?_
  refine W.objInit hx hb hown (hU _ (am_pos 108 (by decide +kernel) rfl)) (hU _ (am_pos 31 (by decide +kernel) rfl)) (hU _ (am_pos (w := .code Lib.objectInit ⟨#[0xb1]⟩ 1 none) 32 (by decide +kernel) rfl)) rfl (by rw [hml]; exact hl.1) rfl d_JN_init_1 (Nat.le_of_ble_eq_true rfl) (Nat.le_of_ble_eq_true rfl) ?_
  refine W.eq (g2 := F0 m 4 ls []) rfl ?_
  refine lv_aload_n hx hb d_JN_init_4 rfl (lv_at hl 0 rfl) ?_
  refine va_new (ci := 4) (fs := [.null, .null, .int 0]) (C := "ReadPass$Seen") (T := am_T4) (N := 3) hx hb hU (am_clU (ci := 4) rfl) am_t4 am_t4_ok hown (hU _ (am_pos 109 (by decide +kernel) rfl)) (hU _ (am_pos 110 (by decide +kernel) rfl)) (hU _ (am_pos 19 (by decide +kernel) rfl)) hK hP hD hS hA rfl (fun j hj => by rcases (show j = 0 ∨ j = 1 ∨ j = 2 by omega) with rfl | rfl | rfl <;> rfl) (Nat.le_of_ble_eq_true rfl) (Nat.le_of_ble_eq_true rfl) d_JN_init_5 (fun q5 H hP hD hS => ?_)
  have hP : va_P D am_cl [(h0, .inr (3, [.null, .int 0, .int 0, .int 0, .int 0, .int 0, .int 0, .int 0, .int 0, .long 0])), (q5, .inr (4, [.null, .null, .int 0]))] H := hP
  have hD : va_D A [(h0, .inr (3, [.null, .int 0, .int 0, .int 0, .int 0, .int 0, .int 0, .int 0, .int 0, .long 0])), (q5, .inr (4, [.null, .null, .int 0]))] := hD
  refine W.widen (k := 1) (n := 3) (Nat.le_of_ble_eq_true rfl) (Nat.le_of_ble_eq_true rfl) ?_
  refine lv_dup hx hb d_JN_init_8 rfl ?_
  have hP : va_P D am_cl ([(h0, .inr (3, [.null, .int 0, .int 0, .int 0, .int 0, .int 0, .int 0, .int 0, .int 0, .long 0]))] ++ [(q5, .inr (4, [.null, .null, .int 0]))]) H := hP
  have hD : va_D A ([(h0, .inr (3, [.null, .int 0, .int 0, .int 0, .int 0, .int 0, .int 0, .int 0, .int 0, .long 0]))] ++ [(q5, .inr (4, [.null, .null, .int 0]))]) := hD
  have hFc := va_free2 hD hS hA
  have hPc := va_P_r hP
  have hDc := va_D_r hD
  refine va_callv (va_runIN (As := []) (rest := [.ref q5, .ref h0]) ⟨hx, hb, hml, hown, hU⟩ (ini_SN_init D ca q5 H.size) ⟨va_cnB (host := "ReadPass") 0 hU (am_goodC (w := .code ⟨"ReadPass$Seen", "<init>", "()V"⟩ prog_6_method_1_code 1 none) (am_pos 113 (by decide +kernel) rfl)) rfl rfl rfl (hN _ (am_posN 111 (by decide +kernel) rfl)) (hU _ (am_pos 19 (by decide +kernel) rfl)) ⟨by decide +kernel, by decide +kernel, by decide +kernel⟩ ⟨Nat.le_of_ble_eq_true rfl, Nat.le_of_ble_eq_true rfl⟩, rfl, hU _ (am_pos 112 (by decide +kernel) rfl)⟩ ⟨am_blind0, fun U hU2 hW => ⟨rfl, by rw [hU2], by rw [hU2]; exact hPc, va_K.moved hW.alike hK, hDc.weaken (fun _ _ _ _ => trivial), am_N_warm hW hN, va_AO.moved hW.alike hO⟩⟩ rfl rfl hl.1 rfl (lv_room (Nat.le_of_ble_eq_true rfl)) d_JN_init_9 ⟨Nat.le_of_ble_eq_true rfl, Nat.le_of_ble_eq_true rfl⟩) hS (fun q _ h => hFc q h) hFc (fun u9 t H1 locs ht hvm hw hB hz1 hk1 hS => ?_)
  obtain ⟨hP1, hD1⟩ := hB
  rw [ht] at hP1
  obtain ⟨hP, hD⟩ := va_cut (w1 := [(q5, .inr (4, [.ref (u9 0), .ref (u9 1), .int 0])), ((u9 0), .inl (ca 1, 512, .inr (.inl (fun _ => 0)))), ((u9 1), .inl (ca 0, 512, .inl (fun _ => 0)))]) (va_P_l hP) hD hk1 hFc hP1 hD1
  generalize H1 = H at hP hS ⊢
  have hP : va_P D am_cl [(h0, .inr (3, [.null, .int 0, .int 0, .int 0, .int 0, .int 0, .int 0, .int 0, .int 0, .long 0])), (q5, .inr (4, [.ref (u9 0), .ref (u9 1), .int 0])), ((u9 0), .inl (ca 1, 512, .inr (.inl (fun _ => 0)))), ((u9 1), .inl (ca 0, 512, .inl (fun _ => 0)))] H := hP
  have hD : va_D A [(h0, .inr (3, [.null, .int 0, .int 0, .int 0, .int 0, .int 0, .int 0, .int 0, .int 0, .long 0])), (q5, .inr (4, [.ref (u9 0), .ref (u9 1), .int 0])), ((u9 0), .inl (ca 1, 512, .inr (.inl (fun _ => 0)))), ((u9 1), .inl (ca 0, 512, .inl (fun _ => 0)))] := hD
  refine W.widen (k := 3) (n := 1027) (Nat.le_of_ble_eq_true rfl) (Nat.le_of_ble_eq_true rfl) ?_
  refine va_putF (D := D) (ci := 3) (v := .ref q5) (ty := .object "ReadPass$Seen") (C := "ReadPass$Journey") (T := am_T3) (N := 10) hx hb hU (am_clU (ci := 3) rfl) am_t3 am_t3_ok (am_cls (ci := 3) rfl).2.1 hown hK hP hD hS 0 rfl rfl 0 (by decide) (hU _ (am_pos 126 (by decide +kernel) rfl)) (fun _ h9 => h9) rfl hin rfl (by decide +kernel) rfl rfl (Nat.le_of_ble_eq_true rfl) d_JN_init_12 (fun H locs hP hD hS => ?_)
  have hP : va_P D am_cl [(h0, .inr (3, [.ref q5, .int 0, .int 0, .int 0, .int 0, .int 0, .int 0, .int 0, .int 0, .long 0])), (q5, .inr (4, [.ref (u9 0), .ref (u9 1), .int 0])), ((u9 0), .inl (ca 1, 512, .inr (.inl (fun _ => 0)))), ((u9 1), .inl (ca 0, 512, .inl (fun _ => 0)))] H := hP
  have hD : va_D A [(h0, .inr (3, [.ref q5, .int 0, .int 0, .int 0, .int 0, .int 0, .int 0, .int 0, .int 0, .long 0])), (q5, .inr (4, [.ref (u9 0), .ref (u9 1), .int 0])), ((u9 0), .inl (ca 1, 512, .inr (.inl (fun _ => 0)))), ((u9 1), .inl (ca 0, 512, .inl (fun _ => 0)))] := hD
  exact W.vret hx hb hr (fun t ht hW => ⟨⟨fun k => [q5, (u9 0), (u9 1)].getD k 0, rfl, trivial, by rw [ht]; exact hP, hD⟩, hS.F ht⟩) hS.2.2 d_JN_init_15
theorem d_SH_init_0 : decode prog_7_method_1_code 0 = .ok (.aload_n 0, 1) := by decide +kernel
theorem d_SH_init_1 : decode prog_7_method_1_code 1 = .ok (.invokespecial 3, 3) := by decide +kernel
theorem d_SH_init_4 : decode prog_7_method_1_code 4 = .ok (.aload_n 0, 1) := by decide +kernel
theorem d_SH_init_5 : decode prog_7_method_1_code 5 = .ok (.bipush 24, 2) := by decide +kernel
theorem d_SH_init_7 : decode prog_7_method_1_code 7 = .ok (.newarray .long, 2) := by decide +kernel
theorem d_SH_init_9 : decode prog_7_method_1_code 9 = .ok (.putfield 9, 3) := by decide +kernel
theorem d_SH_init_12 : decode prog_7_method_1_code 12 = .ok (.aload_n 0, 1) := by decide +kernel
theorem d_SH_init_13 : decode prog_7_method_1_code 13 = .ok (.iconst (-1), 1) := by decide +kernel
theorem d_SH_init_14 : decode prog_7_method_1_code 14 = .ok (.putfield 15, 3) := by decide +kernel
theorem d_SH_init_17 : decode prog_7_method_1_code 17 = .ok (.return_, 1) := by decide +kernel
set_option maxRecDepth 100000 in
set_option maxHeartbeats 4000000 in
theorem ini_SH_init {l : Launch} (D : va_G) (ca : Nat → ClassId) (h0 sz : Nat) : Met l ⟨"ReadPass$Sheet", "<init>", "()V"⟩ (.code ⟨"ReadPass$Sheet", "<init>", "()V"⟩ prog_7_method_1_code 1 none :: am_U) ({ frames := 1, cells := 1, slots := 24, locals := 12 } : Room) (va_Pc [.ref h0] (am_B0 D ca sz [(h0, .inr (5, [.null, .int 0, .int 0]))])) (va_Qv (fun _ : Nat → Nat => True) (fun u t => va_P D am_cl [(h0, .inr (5, [.ref (u 0), .int (-1), .int 0])), ((u 0), .inl (ca 1, 24, .inr (.inl (fun _ => 0))))] t.heap ∧ va_D (va_A [(h0, .inr (5, [.null, .int 0, .int 0]))] sz) [(h0, .inr (5, [.ref (u 0), .int (-1), .int 0])), ((u 0), .inl (ca 1, 24, .inr (.inl (fun _ => 0))))]) (va_A [(h0, .inr (5, [.null, .int 0, .int 0]))] sz)) 1 24 (va_A [(h0, .inr (5, [.null, .int 0, .int 0]))] sz) := by
  refine Met.ofW (cc := prog_7_method_1_code) (maxL := 1) (ret := none) (by decide) rfl ?_
  intro p e s m args below meth c s₁ B hml hv
  obtain ⟨rfl, hsz, hP, hK, hD0, hN, hO⟩ := hv
  have hx := B.exec
  have hb := B.bytes
  have hr := B.returns
  have hts := atoms_spec (ws := Cond.code ⟨"ReadPass$Sheet", "<init>", "()V"⟩ prog_7_method_1_code 1 none :: am_U) B.pre
  have hU : ∀ w ∈ am_U, w.before ([Value.ref h0] : List Value).toArray s = true := fun w hw => hts w (List.mem_cons_of_mem _ hw)
  have hown : s.vm.findClass "ReadPass$Sheet" = some m.cls := findClass_of_methodNamed B.named
  have hlocks := B.notSynchronized
  have hin : meth.name = "<init>" := (name_of_methodNamed B.named B.method).1
  subst hsz
  have hD := hD0.self (sz := s.heap.size)
  generalize hAe : va_A [(h0, .inr (5, [.null, .int 0, .int 0]))] s.heap.size = A at hD ⊢
  have hA : ∀ q : Nat, s.heap.size ≤ q → A q := fun q h => by rw [← hAe]; exact Or.inr h
  have hS : va_S A s.heap s.heap [] := va_S.rf
  have hP : va_P D am_cl [(h0, .inr (5, [.null, .int 0, .int 0]))] s.heap := hP
  have hl := lv_entry ([.ref h0]) (n := 1) (Nat.le_of_ble_eq_true rfl)
  rw [lg_entry_eq]
  generalize (lg_sl ([.ref h0]) ++ List.replicate (1 - (lg_sl ([.ref h0])).length) Slot.unset).toArray = ls at hl ⊢
  have hl : lv_has ls 1 [(0, .ref h0)] := hl
  refine lv_aload_n hx hb d_SH_init_0 rfl (lv_at hl 0 rfl) ?_
  refine W.objInit hx hb hown (hU _ (am_pos 167 (by decide +kernel) rfl)) (hU _ (am_pos 31 (by decide +kernel) rfl)) (hU _ (am_pos (w := .code Lib.objectInit ⟨#[0xb1]⟩ 1 none) 32 (by decide +kernel) rfl)) rfl (by rw [hml]; exact hl.1) rfl d_SH_init_1 (Nat.le_of_ble_eq_true rfl) (Nat.le_of_ble_eq_true rfl) ?_
  refine W.eq (g2 := F0 m 4 ls []) rfl ?_
  refine lv_aload_n hx hb d_SH_init_4 rfl (lv_at hl 0 rfl) ?_
  refine lv_bipush (v := 24) hx hb d_SH_init_5 (by decide) ?_
  refine am_newa (atype := .long) (ty := .long) (ca := ca) (a0 := (24, .inr (.inl (fun _ => 0)))) (N' := 24) hx hb (hU _ (am_pos 125 (by decide +kernel) rfl)) rfl 1 rfl (by intro C h; cases h) hK hP hD hS hA (fun _ => rfl) (by decide) (by decide) (Nat.le_of_ble_eq_true rfl) (Nat.le_of_ble_eq_true rfl) (Nat.le_of_ble_eq_true rfl) d_SH_init_7 (fun q7 H hP hD hS => ?_)
  have hP : va_P D am_cl [(h0, .inr (5, [.null, .int 0, .int 0])), (q7, .inl (ca 1, 24, .inr (.inl (fun _ => 0))))] H := hP
  have hD : va_D A [(h0, .inr (5, [.null, .int 0, .int 0])), (q7, .inl (ca 1, 24, .inr (.inl (fun _ => 0))))] := hD
  refine W.widen (k := 1) (n := 24) (Nat.le_of_ble_eq_true rfl) (Nat.le_of_ble_eq_true rfl) ?_
  refine va_putF (D := D) (ci := 5) (v := .ref q7) (ty := .array .long) (C := "ReadPass$Sheet") (T := am_T5) (N := 3) hx hb hU (am_clU (ci := 5) rfl) am_t5 am_t5_ok (am_cls (ci := 5) rfl).2.1 hown hK hP hD hS 0 rfl rfl 0 (by decide) (hU _ (am_pos 168 (by decide +kernel) rfl)) (fun _ h9 => h9) rfl hin rfl (by decide +kernel) rfl rfl (Nat.le_of_ble_eq_true rfl) d_SH_init_9 (fun H locs hP hD hS => ?_)
  have hP : va_P D am_cl [(h0, .inr (5, [.ref q7, .int 0, .int 0])), (q7, .inl (ca 1, 24, .inr (.inl (fun _ => 0))))] H := hP
  have hD : va_D A [(h0, .inr (5, [.ref q7, .int 0, .int 0])), (q7, .inl (ca 1, 24, .inr (.inl (fun _ => 0))))] := hD
  refine lv_aload_n hx hb d_SH_init_12 rfl (lv_at hl 0 rfl) ?_
  refine lv_iconst (v := (-1)) hx hb d_SH_init_13 (by decide) ?_
  refine va_put (D := D) (ci := 5) (v := .int (-1)) (ty := .int) (C := "ReadPass$Sheet") (T := am_T5) (N := 3) hx hb hU (am_clU (ci := 5) rfl) am_t5 am_t5_ok (am_cls (ci := 5) rfl).2.1 hown hK hP hD hS 0 rfl rfl 1 (by decide) (hU _ (am_pos 170 (by decide +kernel) rfl)) (fun _ h9 => h9) rfl (by decide +kernel) rfl rfl (Nat.le_of_ble_eq_true rfl) d_SH_init_14 (fun H locs hP hD hS => ?_)
  have hP : va_P D am_cl [(h0, .inr (5, [.ref q7, .int (-1), .int 0])), (q7, .inl (ca 1, 24, .inr (.inl (fun _ => 0))))] H := hP
  have hD : va_D A [(h0, .inr (5, [.ref q7, .int (-1), .int 0])), (q7, .inl (ca 1, 24, .inr (.inl (fun _ => 0))))] := hD
  exact W.vret hx hb hr (fun t ht hW => ⟨⟨fun k => [q7].getD k 0, rfl, trivial, by rw [ht]; exact hP, hD⟩, hS.F ht⟩) hS.2.2 d_SH_init_17
