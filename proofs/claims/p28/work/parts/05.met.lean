/-! A METHOD'S CONTRACT out of the small machine -/
def am_B (S : List am_C) (ad : Nat → Nat) (ca : Nat → ClassId) (D : va_G) (sz : Nat) (I : am_I) (L : am_J) : State → Prop := fun U => U.heap.size = sz ∧ va_P D am_cl (am_w S ad ca I L) U.heap ∧ va_K D am_cl (am_ty ca) U ∧ va_D (fun _ => True) (am_w S ad ca I L) ∧ (∀ w ∈ am_N, va_Nw w U)
def am_Met (l : Launch) (S : List am_C) (y : MethodName) (cc : ByteArray) (maxL : Nat) (ret : Option FieldType) (rm : Room) (T : am_Sp) : Prop :=
  ∀ (ad : Nat → Nat) (ca : Nat → ClassId) (D : va_G) (sz : Nat) (vs : List Value) (I : am_I) (L : am_J) (post : am_Po), T vs I L post → Met l y (.code y cc maxL ret :: am_U) rm (va_Pc (vs.map (am_val ad)) (am_B S ad ca D sz I L)) (am_Qc S ad ca D (va_A (am_w S ad ca I L) sz) post) 0 0 (va_A (am_w S ad ca I L) sz)
def am_Call (l : Launch) (S : List am_C) (own : String) (rm : Room) (idx n k : Nat) (T : am_Sp) : Prop :=
  ∀ (p : Program) (e : Env) (s : State) (m : MethodId) (args : Array Value) (below : List Frame) (meth : Method) (c : Code) (cc : ByteArray) (nL : Nat) (ad : Nat → Nat) (ca : Nat → ClassId) (D : va_G) (A : Nat → Prop) (Q : State → Prop), am_X p s m args c cc own nL S ad ca D A → am_CO p l e rm s m args below meth c cc nL S ad ca D A Q idx n k T
section AM3
variable {p : Program} {l : Launch} {e : Env} {R : Room} {s : State} {m : MethodId} {args : Array Value} {below : List Frame} {meth : Method} {c : Code} {cc : ByteArray} {own : String} {nL : Nat} {S : List am_C} {ad : Nat → Nat} {ca : Nat → ClassId} {D : va_G} {A : Nat → Prop}
theorem am_sound {rb : Bool} {post : am_Po} {keys : List (Nat × Nat × Nat)} {sp : Nat → am_Sp} {ret : Option FieldType} (X : am_X p s m args c cc own nL S ad ca D A) (hr : meth.sig.returnType = ret) (hlocks : meth.locks = false)
    (hc : ∀ k ∈ keys, am_CO p l e R s m args below meth c cc nL S ad ca D A (MQ below (am_Qc S ad ca D A post) args s 0 0 A) k.1 k.2.1 k.2.2 (sp k.1))
    {code : List am_E} (h1 : ∀ q ∈ code, am_chk own cc keys q = true) (h2 : ∀ q ∈ code, am_rchk ret rb q = true) {cuts : List (Nat × List Nat)} : ∀ (n pc : Nat) (ls : am_Lv) (st : List Value) (I : am_I) (L : am_J), am_ev S sp rb post code cuts (am_V p l e R s m args below meth c nL S ad ca D A (MQ below (am_Qc S ad ca D A post) args s 0 0 A)) n pc ls st I L → am_V p l e R s m args below meth c nL S ad ca D A (MQ below (am_Qc S ad ca D A post) args s 0 0 A) pc ls st I L := by
  intro n
  induction n with
  | zero => intro pc ls st I L h; exact h
  | succ n ih =>
    intro pc ls st I L h
    obtain ⟨q, hq, hpc, h3⟩ := am_fd_ok h
    clear h
    subst hpc
    refine am_sound1 X hr hlocks hc (fun pc' ls' st' I' L' hk => ?_) (h1 q hq) (h2 q hq) h3
    rcases am_ct_ok hk with ⟨m, hm⟩ | hk
    · obtain ⟨ls2, g1, g2, g3⟩ := am_keep_ok _ _ _ hm
      intro hlen H locs lsA hP hS hl
      exact g1 (g2.trans hlen) H locs lsA hP hS (am_lv_sub hl g3)
    · exact ih _ _ _ _ _ hk
theorem am_entry (vs : List Value) {n : Nat} (h : (am_en vs).length ≤ n) : lv_has ((lg_sl (vs.map (am_val ad)) ++ List.replicate (n - (lg_sl (vs.map (am_val ad))).length) Slot.unset).toArray) n (am_lc ad 0 (am_ent vs n)) := by
  have hl := lv_entry (vs.map (am_val ad)) (n := n) (by rw [am_en_len]; exact h)
  refine ⟨hl.1, hl.2.1, fun q hq => hl.2.2 q ?_⟩
  obtain ⟨j, v, h1, rfl⟩ := (am_lc_mem _ 0 q).mp hq
  exact am_en_sub vs 0 _ ((am_lc_mem _ 0 _).mpr ⟨j, v, am_pad_at _ _ _ _ h1, rfl⟩)
theorem am_callR {pc H : _} {A1 : Nat → Prop} {locs : List Loc} {lsA : Array Slot} {st0 rest : List Value} {post : am_Po} {a : Array Value} {free : Addr → Prop} {Q : State → Prop} (hr : va_Run p l e R s m args below meth c H locs 0 0 0 0 (F0 m pc lsA st0) rest (am_Qc S ad ca D A1 post a) free) (hS : va_S A s.heap H locs) (hA : ∀ q, q < H.size → A1 q → A q) (hf : ∀ q, free q → A q)
    (kk : ∀ (v : Option Value) (I' : am_I) (L' : am_J) (H' : Heap) (locs' : List Loc), post v I' L' → va_P D am_cl (am_w S ad ca I' L') H' → va_S A s.heap H' locs' → W p l e R s m args below meth c H' locs' 0 0 Q (F0 m (pc + 3) lsA ((v.map (am_val ad)).toList ++ rest))) : W p l e R s m args below meth c H locs 0 0 Q (F0 m pc lsA st0) := by
  intro T hT X
  obtain ⟨v, st₀, t, T', L, h0, X', hL, e1, e2, ⟨⟨v', I', L', hv, hp, hP⟩, hz, hk⟩, st⟩ := hr T hT X
  cases hv
  rw [h0] at hz hk
  obtain ⟨t2, a1, b1⟩ := kk v' I' L' T'.heap (locs ++ L) hp (by rw [e1]; exact hP)
    ⟨Nat.le_trans hS.1 (by rw [e1]; exact hz), fun q h1 h2 => by rw [e1, hk q (Nat.lt_of_lt_of_le h1 hS.1) (fun z => h2 (hA q (Nat.lt_of_lt_of_le h1 hS.1) z))]; exact hS.2.1 q h1 h2, fun q hq => by
      rcases List.mem_append.mp hq with h | h
      · exact hS.2.2 q h
      · exact hf _ (hL q h)⟩ T' rfl X'
  exact ⟨t2, st t2 a1, b1⟩
theorem am_blind {vs : List Value} {sz : Nat} {I : am_I} {L : am_J} : FrameBlind (va_Pc vs (am_B S ad ca D sz I L)) := by
  intro a U g mk q
  obtain ⟨e, h1, h2, h3, h4, h5⟩ := q
  exact ⟨e, h1, h2, va_K.moved (u := U) (U := U.calling g mk a) (Vm.Alike.refl U.vm) h3, h4, fun w hw => va_Nw.same (u := U) (U := U.calling g mk a) (am_N_tabs hw) rfl (h5 w hw)⟩
theorem am_freeA {H : Heap} {locs : List Loc} {I : am_I} {L : am_J} (hD : va_D A (am_w S ad ca I L)) (hS : va_S A s.heap H locs) (hA : ∀ q : Nat, s.heap.size ≤ q → A q) : ∀ q, va_A (am_w S ad ca I L) H.size q → A q := by
  intro q h
  rcases h with ⟨k, e, h⟩ | h
  · exact hD.2 k (q, e) h
  · exact hA q (Nat.le_trans hS.1 h)
end AM3
theorem am_MetOf {l : Launch} {S : List am_C} {y : MethodName} {cc : ByteArray} {maxL : Nat} {ret : Option FieldType} {rm : Room} {T : am_Sp} (keys : List (Nat × Nat × Nat)) {sp : Nat → am_Sp} {rb : Bool} {code : List am_E} (hok : am_Ok S sp rb code maxL T) (hy : plainName y.cls = true) (hchk : code.all (am_chk y.cls cc keys) = true) (hrchk : code.all (am_rchk ret rb) = true) (hS : am_shOK S = true) (hcalls : ∀ k ∈ keys, am_Call l S y.cls rm k.1 k.2.1 k.2.2 (sp k.1)) : am_Met l S y cc maxL ret rm T := by
  intro ad ca D sz vs I L post hT
  obtain ⟨hen, hG⟩ := hok vs I L post hT
  refine Met.ofW (cc := cc) (maxL := maxL) (ret := ret) hy rfl ?_
  intro p e s m args below meth c s₁ B hml hv
  obtain ⟨rfl, hsz, hP, hK, hD0, hN⟩ := hv
  have hts := atoms_spec (ws := Cond.code y cc maxL ret :: am_U) B.pre
  subst hsz
  have hD := hD0.self (sz := s.heap.size)
  have X : am_X p s m (vs.map (am_val ad)).toArray c cc y.cls maxL S ad ca D (va_A (am_w S ad ca I L) s.heap.size) := ⟨B.exec, B.bytes, hml, findClass_of_methodNamed B.named, fun w hw => hts w (List.mem_cons_of_mem _ hw), fun w hw => va_Nw.use (am_N_tabs hw) (hN w hw), hK, fun I' L' => am_D hD, hS, fun q h => Or.inr h⟩
  have key := hG (am_V p l e rm s m (vs.map (am_val ad)).toArray below meth c maxL S ad ca D (va_A (am_w S ad ca I L) s.heap.size) (MQ below (am_Qc S ad ca D (va_A (am_w S ad ca I L) s.heap.size) post) (vs.map (am_val ad)).toArray s 0 0 (va_A (am_w S ad ca I L) s.heap.size))) (fun cuts n pc ls st I L h => am_sound X B.returns B.notSynchronized (fun k hk => hcalls k hk p e s m _ below meth c cc maxL ad ca D _ _ X) (fun q hq => List.all_eq_true.mp hchk q hq) (fun q hq => List.all_eq_true.mp hrchk q hq) n pc ls st I L h)
  rw [lg_entry_eq]
  exact key (am_pad_len _ _ hen) s.heap [] _ hP va_S.rf (am_entry vs hen)
theorem am_co_V {l : Launch} {S : List am_C} {own : String} {rm rm' : Room} {idx n ci N : Nat} {y : MethodName} {bytes : ByteArray} {maxL : Nat} {ret : Option FieldType} {T : am_Sp} {TT : u_T} (hM : am_Met l S y bytes maxL ret rm' T) (hl : Cond.methodLink own idx y ∈ am_U) (hi : Cond.instanceMethod y ∈ am_U) (hse : Cond.selects y.cls y y ∈ am_U) (hini : Cond.initialized y.cls ∈ am_U) (hcode : Cond.code y bytes maxL ret ∈ am_U)
    (hd : y.cls ≠ "java/lang/invoke/MethodHandle" ∧ y.cls ≠ "java/lang/invoke/VarHandle" ∧ (parseMethodDescriptor y.desc).map (fun d => d.parameters.length) = some n) (hrc : rm'.cells = 0) (hrs : rm'.slots = 0) (hR : rm'.frames + 1 ≤ rm.frames ∧ 8 + (maxL + 11) + rm'.locals ≤ rm.locals) (hcl : am_cl[ci]? = some (y.cls, TT, N)) : am_Call l S own rm idx (n + 1) (10 + ci) T := by
  intro p e s m args below meth c cc nL ad ca D A Q X pc vs r I L post H locs lsA hdg hlen hcat hobj hT hsz hP hS kk
  obtain ⟨hx, hb, hml, hown, hU, hN, hK, hD, hsh, hA⟩ := X
  obtain ⟨o, t, fs, rfl, hs⟩ := hobj ci rfl
  have hlen : t.length = n := by simpa using hlen
  rw [am_kind, if_neg (by omega)] at hdg
  have hfree := am_freeA (hD I L) hS hA
  have hG : GoodIn am_U (Cond.code y bytes maxL ret :: am_U) := am_goodU (fun w hw => by rcases List.mem_cons.mp hw with h | h; exact h ▸ hcode; exact h)
  refine am_callR (H := H) (A1 := va_A (am_w S ad ca I L) H.size) (rest := r.map (am_val ad)) (free := va_A (am_w S ad ca I L) H.size) (va_runV (As := t.map (am_val ad)) (b := ad o) ⟨hx, hb, hml, hown, hU⟩ (hM ad ca D H.size (.ref o :: t) I L post hT) ⟨callB_of n hU hG rfl hrc hrs (hU _ hini) (hU _ hl) hd hR, hU _ hi, hU _ hse⟩ ⟨am_blind, va_recv hK hP hcl (am_w_get hs), fun U hU2 hW => ⟨rfl, by rw [hU2], by rw [hU2]; exact hP, va_K.moved hW.alike hK, (hD I L).weaken (fun _ _ _ _ => trivial), am_N_warm hW (fun w hw => va_Nw.of (am_N_tabs hw) (hN w hw))⟩⟩ rfl (by simpa using hlen) hsz ?_ (lv_room (by rw [am_cat_ok]; exact hcat)) hdg ⟨Nat.zero_le _, Nat.zero_le _⟩) hS (fun q _ h => hfree q h) hfree (fun v I' L' H' locs' h1 h2 h3 => ?_)
  · simp [am_val]
  · have := kk v I' L' H' locs' h1 h2 h3
    cases v <;> exact this
theorem am_co_S {l : Launch} {S : List am_C} {own : String} {rm rm' : Room} {idx n : Nat} {y : MethodName} {bytes : ByteArray} {maxL : Nat} {ret : Option FieldType} {T : am_Sp} (hM : am_Met l S y bytes maxL ret rm' T) (hl : Cond.methodLink own idx y ∈ am_U) (hst : Cond.static y ∈ am_U) (hini : Cond.initialized y.cls ∈ am_U) (hcode : Cond.code y bytes maxL ret ∈ am_U)
    (hd : y.cls ≠ "java/lang/invoke/MethodHandle" ∧ y.cls ≠ "java/lang/invoke/VarHandle" ∧ (parseMethodDescriptor y.desc).map (fun d => d.parameters.length) = some n) (hrc : rm'.cells = 0) (hrs : rm'.slots = 0) (hR : rm'.frames + 1 ≤ rm.frames ∧ 8 + (maxL + 11) + rm'.locals ≤ rm.locals) : am_Call l S own rm idx n 0 T := by
  intro p e s m args below meth c cc nL ad ca D A Q X pc vs r I L post H locs lsA hdg hlen hcat hobj hT hsz hP hS kk
  obtain ⟨hx, hb, hml, hown, hU, hN, hK, hD, hsh, hA⟩ := X
  rw [am_kind, if_pos rfl] at hdg
  have hfree := am_freeA (hD I L) hS hA
  have hG : GoodIn am_U (Cond.code y bytes maxL ret :: am_U) := am_goodU (fun w hw => by rcases List.mem_cons.mp hw with h | h; exact h ▸ hcode; exact h)
  refine am_callR (H := H) (A1 := va_A (am_w S ad ca I L) H.size) (rest := r.map (am_val ad)) (free := va_A (am_w S ad ca I L) H.size) (va_runS (As := vs.map (am_val ad)) ⟨hx, hb, hml, hown, hU⟩ (hM ad ca D H.size vs I L post hT) ⟨callB_of n hU hG rfl hrc hrs (hU _ hini) (hU _ hl) hd hR, hU _ hst⟩ ⟨am_blind, fun U hU2 hW => ⟨rfl, by rw [hU2], by rw [hU2]; exact hP, va_K.moved hW.alike hK, (hD I L).weaken (fun _ _ _ _ => trivial), am_N_warm hW (fun w hw => va_Nw.of (am_N_tabs hw) (hN w hw))⟩⟩ rfl (by simpa using hlen) hsz ?_ (lv_room (by rw [am_cat_ok]; exact hcat)) hdg ⟨Nat.zero_le _, Nat.zero_le _⟩) hS (fun q _ h => hfree q h) hfree (fun v I' L' H' locs' h1 h2 h3 => ?_)
  · simp
  · have := kk v I' L' H' locs' h1 h2 h3
    cases v <;> exact this
theorem am_co_SN {l : Launch} {S : List am_C} {own : String} {rm rm' : Room} {idx n : Nat} {y : MethodName} {bytes : ByteArray} {maxL : Nat} {ret : Option FieldType} {T : am_Sp} (hM : am_Met l S y bytes maxL ret rm' T) (hl : Cond.methodLinkNest own idx y "ReadPass" ∈ am_N) (hst : Cond.static y ∈ am_U) (hini : Cond.initialized y.cls ∈ am_U) (hcode : Cond.code y bytes maxL ret ∈ am_U)
    (hd : y.cls ≠ "java/lang/invoke/MethodHandle" ∧ y.cls ≠ "java/lang/invoke/VarHandle" ∧ (parseMethodDescriptor y.desc).map (fun d => d.parameters.length) = some n) (hrc : rm'.cells = 0) (hrs : rm'.slots = 0) (hR : rm'.frames + 1 ≤ rm.frames ∧ 8 + (maxL + 11) + rm'.locals ≤ rm.locals) : am_Call l S own rm idx n 0 T := by
  intro p e s m args below meth c cc nL ad ca D A Q X pc vs r I L post H locs lsA hdg hlen hcat hobj hT hsz hP hS kk
  obtain ⟨hx, hb, hml, hown, hU, hN, hK, hD, hsh, hA⟩ := X
  rw [am_kind, if_pos rfl] at hdg
  have hfree := am_freeA (hD I L) hS hA
  have hG : GoodIn am_U (Cond.code y bytes maxL ret :: am_U) := am_goodU (fun w hw => by rcases List.mem_cons.mp hw with h | h; exact h ▸ hcode; exact h)
  refine am_callR (H := H) (A1 := va_A (am_w S ad ca I L) H.size) (rest := r.map (am_val ad)) (free := va_A (am_w S ad ca I L) H.size) (va_runSN (As := vs.map (am_val ad)) ⟨hx, hb, hml, hown, hU⟩ (hM ad ca D H.size vs I L post hT) ⟨va_cnB n hU hG rfl hrc hrs (va_Nw.of (am_N_tabs hl) (hN _ hl)) (hU _ hini) hd hR, hU _ hst, trivial⟩ ⟨am_blind, fun U hU2 hW => ⟨rfl, by rw [hU2], by rw [hU2]; exact hP, va_K.moved hW.alike hK, (hD I L).weaken (fun _ _ _ _ => trivial), am_N_warm hW (fun w hw => va_Nw.of (am_N_tabs hw) (hN w hw))⟩⟩ rfl (by simpa using hlen) hsz ?_ (lv_room (by rw [am_cat_ok]; exact hcat)) hdg ⟨Nat.zero_le _, Nat.zero_le _⟩) hS (fun q _ h => hfree q h) hfree (fun v I' L' H' locs' h1 h2 h3 => ?_)
  · simp
  · have := kk v I' L' H' locs' h1 h2 h3
    cases v <;> exact this
