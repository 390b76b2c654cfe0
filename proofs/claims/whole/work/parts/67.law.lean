/-! THE CLAIM OUT OF ONE WALK OF THE LAW'S BODY. Your part is whole_start (and what it stands on); all else here is the same for every law, but numbers. -/
def R_law : String := "ReadPassLaw"
def lw_P (b : Addr) (xs : List Int32) (args : Array Value) (s : State) : Prop := args = #[.ref b] ∧ s.IntsAt b xs ∧ xs.length ≤ 4096 ∧ (Jvm.Cond.and given_1 narrow_1).before args s = true
def lw_Q (_ : Array Value) (s : State) (o : Outcome) (t : State) : Prop := o = .returned (some (.int 1)) ∧ Framed s o t [] 600000 7302250
def lw_Z (below : List Frame) (a : Array Value) (s : State) : State → Prop := fun t => ∃ o, t.status = .running ∧ Ended t below o ∧ lw_Q a s o t
/-- the law's own end, with 1 on the stack, nothing written that was there before, its room as the claim has it -/
theorem lw_ret {p : Program} {l : Launch} {e : Env} {s : State} {m : MethodId} {below : List Frame} {meth : Method} {c : Code} {b : Nat} (hx : p.tables.exec = Jvm.exec) (hb : c.code = code) (hr : meth.sig.returnType = ret) (hlocks : meth.locks = false) {pc : Nat} {H : Heap} {ls : Array Slot} (hdg : decode code pc = .ok (.ireturn, 1)) : W p l e room_1 s m #[Value.ref b] below meth c H [] 600000 7302250 (lw_Z below #[Value.ref b] s) (F0 m pc ls [.int 1]) := by
  intro T hT X
  obtain ⟨fs, hret, hrun, hended, hW, hframe⟩ := X.leave (v := some (.int 1)) (hlocks := hlocks) (fun h => by rw [hr] at h; cases h)
  have hmeth' : T.vm.method? m = some meth := X.method'
  refine ⟨T.setFrames fs, ?_, .returned (some (.int 1)), hrun, hended, rfl, ⟨_, rfl⟩, hW, hframe⟩
  jvm_step X.here [X.here.top, hx, hb, hdg, hmeth', hr, ret, narrow_b1]
  (try refine ⟨rfl, ?_⟩); (try refine ⟨rfl, ?_⟩)
  first | (intro acts; rw [hret _ acts rfl rfl rfl]) | rw [hret _ _ rfl rfl rfl]
  exact Steps.refl _
/-- what holds at the law's entry: the machine, the code, the tables' words (any of lw_tbl by 'hts w (by decide +kernel)'), the script of L ints xs at the cell b, what the Statement gives of the start (any of its parts by flat_of_before) -/
def lw_At (p : Program) (s : State) (m : MethodId) (meth : Method) (c : Code) (b L : Nat) (xs : Nat → Int32) : Prop :=
  p.tables.exec = Jvm.exec ∧ c.code = code ∧ meth.sig.returnType = ret ∧ c.maxLocals = 4 ∧ s.vm.findClass R_law = some m.cls ∧ (∀ w ∈ lw_tbl, w.before #[Value.ref b] s = true) ∧ va_X b L xs s s.heap ∧ b < s.heap.size ∧ meth.locks = false ∧ (Jvm.Cond.and given_1 narrow_1).before #[Value.ref b] s = true
/-! THE LAW: its two worlds; calls -/
theorem va_D_l {A : Nat → Prop} {w1 w2 : va_W} (h : va_D A (w1 ++ w2)) : va_D A w1 := by
  have k : ∀ (i : Nat) (p : Nat × va_E), w1[i]? = some p → (w1 ++ w2)[i]? = some p := fun i p hi => by
    rw [List.getElem?_append_left (List.getElem?_eq_some_iff.mp hi).1]; exact hi
  exact ⟨fun i j p q hi hj e => h.1 i j p q (k i p hi) (k j q hj) e, fun i p hi => h.2 i p (k i p hi)⟩
theorem va_D_r {A : Nat → Prop} {w1 w2 : va_W} (h : va_D A (w1 ++ w2)) : va_D A w2 := by
  have k : ∀ (i : Nat) (p : Nat × va_E), w2[i]? = some p → (w1 ++ w2)[w1.length + i]? = some p := fun i p hi => by
    rw [List.getElem?_append_right (by omega), show w1.length + i - w1.length = i by omega]; exact hi
  exact ⟨fun i j p q hi hj e => by have := h.1 _ _ p q (k i p hi) (k j q hj) e; omega, fun i p hi => h.2 _ p (k i p hi)⟩
theorem va_D_x {A : Nat → Prop} {w1 w2 : va_W} (h : va_D A (w1 ++ w2)) (i j : Nat) (p q : Nat × va_E) (hi : w1[i]? = some p) (hj : w2[j]? = some q) : ¬ p.1 = q.1 := by
  intro e
  have l1 := (List.getElem?_eq_some_iff.mp hi).1
  have := h.1 i (w1.length + j) p q (by rw [List.getElem?_append_left l1]; exact hi) (by rw [List.getElem?_append_right (by omega), show w1.length + j - w1.length = j by omega]; exact hj) e
  omega
def lw_E (p : Program) (s : State) (m : MethodId) (c : Code) (b : Nat) (D : va_G) (ca : Nat → ClassId) (adX adM : Nat → Nat) : Prop :=
  p.tables.exec = Jvm.exec ∧ c.code = code ∧ c.maxLocals = 4 ∧ s.vm.findClass R_law = some m.cls ∧ (∀ w ∈ am_U, w.before #[Value.ref b] s = true) ∧ (∀ w ∈ am_N, w.before #[Value.ref b] s = true) ∧ va_K D am_cl (am_ty ca) s ∧ ∀ (I : am_I) (L : am_J) (I2 : am_I) (L2 : am_J), va_D (fun q : Nat => s.heap.size ≤ q) (am_w am_SX adX ca I L ++ am_w am_SM adM ca I2 L2)
def lw_St (s : State) (D : va_G) (ca : Nat → ClassId) (adX adM : Nat → Nat) (PX PM : am_I → am_J → Prop) (H : Heap) (locs : List Loc) : Prop :=
  ∃ (IX : am_I) (LX : am_J) (IM : am_I) (LM : am_J), PX IX LX ∧ PM IM LM ∧ va_P D am_cl (am_w am_SX adX ca IX LX) H ∧ va_P D am_cl (am_w am_SM adM ca IM LM) H ∧ va_S (fun q : Nat => s.heap.size ≤ q) s.heap H locs
section LWC
variable {p : Program} {l : Launch} {e : Env} {s : State} {m : MethodId} {below : List Frame} {meth : Method} {c : Code} {b : Nat} {D : va_G} {ca : Nat → ClassId} {adX adM : Nat → Nat} {Q : State → Prop} {cells slots : Nat}
theorem lw_St.S {PX PM : am_I → am_J → Prop} {H : Heap} {locs : List Loc} (h : lw_St s D ca adX adM PX PM H locs) : va_S (fun q : Nat => s.heap.size ≤ q) s.heap H locs := by
  obtain ⟨_, _, _, _, _, _, _, _, h⟩ := h
  exact h
theorem lw_callR {args a : Array Value} {S : List am_C} {ad : Nat → Nat} {A : Nat → Prop} {w2 : va_W} {pc : Nat} {H : Heap} {locs : List Loc} {lsA : Array Slot} {st0 rest : List Value} {I : am_I} {L : am_J} {post : am_Po} {free : Addr → Prop} (hr : va_Run p l e room_1 s m args below meth c H locs cells slots 0 0 (F0 m pc lsA st0) rest (am_Qc S ad ca D (va_A (am_w S ad ca I L) H.size) post a) free) (hS : va_S A s.heap H locs) (hA : ∀ q, q < H.size → va_A (am_w S ad ca I L) H.size q → A q) (hf : ∀ q, free q → A q) (h2 : va_P D am_cl w2 H) (hd : ∀ (i j : Nat) (x y : Nat × va_E), (am_w S ad ca I L)[i]? = some x → w2[j]? = some y → ¬ x.1 = y.1)
    (kk : ∀ (v : Option Value) (I' : am_I) (L' : am_J) (H' : Heap) (locs' : List Loc), post v I' L' → va_P D am_cl (am_w S ad ca I' L') H' → va_P D am_cl w2 H' → va_S A s.heap H' locs' → W p l e room_1 s m args below meth c H' locs' cells slots Q (F0 m (pc + 3) lsA ((v.map (am_val ad)).toList ++ rest))) : W p l e room_1 s m args below meth c H locs cells slots Q (F0 m pc lsA st0) := by
  intro T hT X
  obtain ⟨v, st₀, t, T', L, h0, X', hL, e1, e2, ⟨⟨v', I', L', hv, hp, hP⟩, hz, hk⟩, st⟩ := hr T hT X
  cases hv
  rw [h0] at hz hk
  obtain ⟨t2, a1, b1⟩ := kk v' I' L' T'.heap (locs ++ L) hp (by rw [e1]; exact hP)
    (h2.kept (fun k x hx => by
      rw [e1]
      refine hk x.1 (h2 k x hx).lt (fun z => ?_)
      rcases z with ⟨j, e0, h⟩ | h
      · exact hd j k _ x h hx rfl
      · have := (h2 k x hx).lt; omega))
    ⟨Nat.le_trans hS.1 (by rw [e1]; exact hz), fun q h1 h2 => by rw [e1, hk q (Nat.lt_of_lt_of_le h1 hS.1) (fun z => h2 (hA q (Nat.lt_of_lt_of_le h1 hS.1) z))]; exact hS.2.1 q h1 h2, fun q hq => by
      rcases List.mem_append.mp hq with h | h
      · exact hS.2.2 q h
      · exact hf _ (hL q h)⟩ T' rfl X'
  exact ⟨t2, st t2 a1, b1⟩
theorem lw_cX (E : lw_E p s m c b D ca adX adM) {y : MethodName} {bytes : ByteArray} {maxL : Nat} {rm' : Room} {T : am_Sp} {n idx : Nat} (hM : am_Met l am_SX y bytes maxL (some .int) rm' T) (hl : Cond.methodLink R_law idx y ∈ am_U) (hi : Cond.instanceMethod y ∈ am_U) (hse : Cond.selects y.cls y y ∈ am_U) (hini : Cond.initialized y.cls ∈ am_U) (hcode : Cond.code y bytes maxL (some .int) ∈ am_U)
    (hd : y.cls ≠ "java/lang/invoke/MethodHandle" ∧ y.cls ≠ "java/lang/invoke/VarHandle" ∧ (parseMethodDescriptor y.desc).map (fun d => d.parameters.length) = some n) (hrc : rm'.cells = 0) (hrs : rm'.slots = 0) (hR : rm'.frames + 1 ≤ room_1.frames ∧ 8 + (maxL + 11) + rm'.locals ≤ room_1.locals) (hcls : y.cls = "ReadPass")
    {pc : Nat} {t r : List Value} {lsA : Array Slot} {PX PM PX' : am_I → am_J → Prop} {rv : Int32} (hdg : decode code pc = .ok (.invokevirtual idx, 3)) (hlen : t.length = n) (ht : t.map (am_val adX) = t) (hcat : (r.map fun v => v.category).sum ≤ 8) (hsz : lsA.size = 4) (hT : ∀ (I : am_I) (L : am_J), PX I L → T (.ref 0 :: t) I L (fun v I' L' => v = some (.int rv) ∧ PX' I' L')) {H : Heap} {locs : List Loc} (hSt : lw_St s D ca adX adM PX PM H locs) (hroom : cells ≤ room_1.cells ∧ slots ≤ room_1.slots)
    (kk : ∀ (H' : Heap) (locs' : List Loc), lw_St s D ca adX adM PX' PM H' locs' → W p l e room_1 s m #[Value.ref b] below meth c H' locs' cells slots Q (F0 m (pc + 3) lsA (.int rv :: r))) : W p l e room_1 s m #[Value.ref b] below meth c H locs cells slots Q (F0 m pc lsA (t.reverse ++ .ref (adX 0) :: r)) := by
  obtain ⟨hx, hb, hml, hown, hU, hN, hK, hD⟩ := E
  obtain ⟨I, L, I2, L2, hPI, hPI2, hP, hP2, hS⟩ := hSt
  have hDa := va_D_l (hD I L I2 L2)
  have hfree : ∀ q, va_A (am_w am_SX adX ca I L) H.size q → s.heap.size ≤ q := am_freeA hDa hS (fun q h => h)
  have hG : GoodIn am_U (Cond.code y bytes maxL (some .int) :: am_U) := am_goodU (fun w hw => by rcases List.mem_cons.mp hw with h | h; exact h ▸ hcode; exact h)
  refine lw_callR (S := am_SX) (ad := adX) (I := I) (L := L) (rest := r) (free := va_A (am_w am_SX adX ca I L) H.size) (va_runV (As := t) (b := adX 0) ⟨hx, hb, hml, hown, hU⟩ (by
    have := hM adX ca D H.size (.ref 0 :: t) I L _ (hT I L hPI)
    rw [List.map_cons, ht] at this
    exact this) ⟨callB_of n hU hG rfl hrc hrs (hU _ hini) (hU _ hl) hd hR, hU _ hi, hU _ hse⟩ ⟨am_blind, ?_, fun U hU2 hW => ⟨rfl, by rw [hU2], by rw [hU2]; exact hP, va_K.moved hW.alike hK, hDa.weaken (fun _ _ _ _ => trivial), am_N_warm hW (fun w hw => va_Nw.of (am_N_tabs hw) (hN w hw))⟩⟩ rfl hlen hsz rfl (lv_room hcat) hdg ⟨hroom.1, hroom.2⟩) hS (fun q _ h => hfree q h) hfree hP2 (fun i j x y h1 h2 => va_D_x (hD I L I2 L2) i j x y h1 h2) (fun v I' L' H' locs' hp hP1 hP3 hS1 => ?_)
  · rw [hcls]
    obtain ⟨fs, hs⟩ : ∃ fs, am_SX[0]? = some (.inl (0, fs)) := ⟨_, rfl⟩
    exact va_recv (q := ("ReadPass", am_T0, 8)) hK hP rfl (am_w_get hs)
  · obtain ⟨rfl, hp2⟩ := id hp
    exact kk H' locs' ⟨I', L', I2, L2, hp.2, hPI2, hP1, hP3, hS1⟩
theorem lw_cM (E : lw_E p s m c b D ca adX adM) {y : MethodName} {bytes : ByteArray} {maxL : Nat} {rm' : Room} {T : am_Sp} {n idx : Nat} (hM : am_Met l am_SM y bytes maxL (some .int) rm' T) (hl : Cond.methodLink R_law idx y ∈ am_U) (hi : Cond.instanceMethod y ∈ am_U) (hse : Cond.selects y.cls y y ∈ am_U) (hini : Cond.initialized y.cls ∈ am_U) (hcode : Cond.code y bytes maxL (some .int) ∈ am_U)
    (hd : y.cls ≠ "java/lang/invoke/MethodHandle" ∧ y.cls ≠ "java/lang/invoke/VarHandle" ∧ (parseMethodDescriptor y.desc).map (fun d => d.parameters.length) = some n) (hrc : rm'.cells = 0) (hrs : rm'.slots = 0) (hR : rm'.frames + 1 ≤ room_1.frames ∧ 8 + (maxL + 11) + rm'.locals ≤ room_1.locals) (hcls : y.cls = "ReadPassModel")
    {pc : Nat} {t r : List Value} {lsA : Array Slot} {PX PM PM' : am_I → am_J → Prop} {rv : Int32} (hdg : decode code pc = .ok (.invokevirtual idx, 3)) (hlen : t.length = n) (ht : t.map (am_val adM) = t) (hcat : (r.map fun v => v.category).sum ≤ 8) (hsz : lsA.size = 4) (hT : ∀ (I : am_I) (L : am_J), PM I L → T (.ref 0 :: t) I L (fun v I' L' => v = some (.int rv) ∧ PM' I' L')) {H : Heap} {locs : List Loc} (hSt : lw_St s D ca adX adM PX PM H locs) (hroom : cells ≤ room_1.cells ∧ slots ≤ room_1.slots)
    (kk : ∀ (H' : Heap) (locs' : List Loc), lw_St s D ca adX adM PX PM' H' locs' → W p l e room_1 s m #[Value.ref b] below meth c H' locs' cells slots Q (F0 m (pc + 3) lsA (.int rv :: r))) : W p l e room_1 s m #[Value.ref b] below meth c H locs cells slots Q (F0 m pc lsA (t.reverse ++ .ref (adM 0) :: r)) := by
  obtain ⟨hx, hb, hml, hown, hU, hN, hK, hD⟩ := E
  obtain ⟨I2, L2, I, L, hPI2, hPI, hP2, hP, hS⟩ := hSt
  have hDa := va_D_r (hD I2 L2 I L)
  have hfree : ∀ q, va_A (am_w am_SM adM ca I L) H.size q → s.heap.size ≤ q := am_freeA hDa hS (fun q h => h)
  have hG : GoodIn am_U (Cond.code y bytes maxL (some .int) :: am_U) := am_goodU (fun w hw => by rcases List.mem_cons.mp hw with h | h; exact h ▸ hcode; exact h)
  refine lw_callR (S := am_SM) (ad := adM) (I := I) (L := L) (rest := r) (free := va_A (am_w am_SM adM ca I L) H.size) (va_runV (As := t) (b := adM 0) ⟨hx, hb, hml, hown, hU⟩ (by
    have := hM adM ca D H.size (.ref 0 :: t) I L _ (hT I L hPI)
    rw [List.map_cons, ht] at this
    exact this) ⟨callB_of n hU hG rfl hrc hrs (hU _ hini) (hU _ hl) hd hR, hU _ hi, hU _ hse⟩ ⟨am_blind, ?_, fun U hU2 hW => ⟨rfl, by rw [hU2], by rw [hU2]; exact hP, va_K.moved hW.alike hK, hDa.weaken (fun _ _ _ _ => trivial), am_N_warm hW (fun w hw => va_Nw.of (am_N_tabs hw) (hN w hw))⟩⟩ rfl hlen hsz rfl (lv_room hcat) hdg ⟨hroom.1, hroom.2⟩) hS (fun q _ h => hfree q h) hfree hP2 (fun i j x y h1 h2 z => va_D_x (hD I2 L2 I L) j i y x h2 h1 z.symm) (fun v I' L' H' locs' hp hP1 hP3 hS1 => ?_)
  · rw [hcls]
    obtain ⟨fs, hs⟩ : ∃ fs, am_SM[0]? = some (.inl (6, fs)) := ⟨_, rfl⟩
    exact va_recv (q := ("ReadPassModel", am_T6, 28)) hK hP rfl (am_w_get hs)
  · obtain ⟨rfl, hp2⟩ := id hp
    exact kk H' locs' ⟨I2, L2, I', L', hPI2, hp.2, hP3, hP1, hS1⟩
end LWC
